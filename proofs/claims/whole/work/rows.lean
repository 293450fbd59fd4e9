section
/-! Finite sets by lists, groups of maps of the numbers. Pure: nothing of the machine. -/
section

def gp_card {α : Type} (S : α → Prop) (k : Nat) : Prop :=
  ∃ l : List α, l.Nodup ∧ l.length = k ∧ ∀ x, x ∈ l ↔ S x

theorem gp_card_le {α : Type} {S T : α → Prop} {j k : Nat} (hs : gp_card S j) (ht : gp_card T k)
    (h : ∀ x, S x → T x) : j ≤ k := by
  obtain ⟨l, hn, hl, hm⟩ := hs
  obtain ⟨l', hn', hl', hm'⟩ := ht
  rw [← hl, ← hl']
  exact List.Nodup.length_le_of_subset hn (fun x hx => (hm' x).2 (h x ((hm x).1 hx)))

theorem gp_card_uniq {α : Type} {S : α → Prop} {j k : Nat} (hs : gp_card S j) (ht : gp_card S k) : j = k :=
  Nat.le_antisymm (gp_card_le hs ht (fun _ h => h)) (gp_card_le ht hs (fun _ h => h))

theorem gp_card_congr {α : Type} {S T : α → Prop} {k : Nat} (hs : gp_card S k) (h : ∀ x, S x ↔ T x) :
    gp_card T k := by
  obtain ⟨l, hn, hl, hm⟩ := hs
  exact ⟨l, hn, hl, fun x => (hm x).trans (h x)⟩

theorem gp_card_lt {α : Type} {S T : α → Prop} {j k : Nat} (hs : gp_card S j) (ht : gp_card T k)
    (h : ∀ x, S x → T x) (x : α) (hx : T x) (hnx : ¬ S x) : j < k := by
  obtain ⟨l, hn, hl, hm⟩ := hs
  obtain ⟨l', hn', hl', hm'⟩ := ht
  have h1 : (x :: l).Nodup := List.nodup_cons.2 ⟨fun hxl => hnx ((hm x).1 hxl), hn⟩
  have h2 : (x :: l).length ≤ l'.length := List.Nodup.length_le_of_subset h1 (by
    intro y hy
    rcases List.mem_cons.1 hy with rfl | hy
    · exact (hm' _).2 hx
    · exact (hm' y).2 (h y ((hm y).1 hy)))
  simp only [List.length_cons] at h2
  omega

theorem gp_card_sub {α : Type} {S T : α → Prop} {k : Nat} (ht : gp_card T k) (h : ∀ x, S x → T x) :
    ∃ j, gp_card S j := by
  classical
  obtain ⟨l', hn', _, hm'⟩ := ht
  refine ⟨_, l'.filter (fun x => decide (S x)), List.Nodup.sublist List.filter_sublist hn', rfl, fun x => ?_⟩
  rw [List.mem_filter]
  constructor
  · intro hx; exact of_decide_eq_true hx.2
  · intro hx; exact ⟨(hm' x).2 (h x hx), decide_eq_true hx⟩

theorem gp_card_add {α : Type} {S P : α → Prop} {a b : Nat} (ha : gp_card (fun x => S x ∧ P x) a)
    (hb : gp_card (fun x => S x ∧ ¬ P x) b) : gp_card S (a + b) := by
  classical
  obtain ⟨l, hn, hl, hm⟩ := ha
  obtain ⟨l', hn', hl', hm'⟩ := hb
  refine ⟨l ++ l', ?_, ?_, fun x => ?_⟩
  · rw [List.nodup_append]
    refine ⟨hn, hn', fun x hx y hy e => ?_⟩
    subst e
    exact ((hm' x).1 hy).2 ((hm x).1 hx).2
  · rw [List.length_append, hl, hl']
  · rw [List.mem_append, hm x, hm' x]
    constructor
    · rintro (h | h)
      · exact h.1
      · exact h.1
    · intro h
      by_cases hp : P x
      · exact Or.inl ⟨h, hp⟩
      · exact Or.inr ⟨h, hp⟩

theorem gp_nodup_map {α β : Type} {f : α → β} {l : List α} (hn : l.Nodup)
    (hf : ∀ x y, x ∈ l → y ∈ l → f x = f y → x = y) : (l.map f).Nodup := by
  refine List.pairwise_map.2 (List.Pairwise.imp_of_mem ?_ hn)
  intro a b ha hb hab e
  exact hab (hf a b ha hb e)

theorem gp_card_img {α β : Type} {S : α → Prop} {k : Nat} (hs : gp_card S k) (f : α → β)
    (hf : ∀ x y, S x → S y → f x = f y → x = y) : gp_card (fun y => ∃ x, S x ∧ f x = y) k := by
  obtain ⟨l, hn, hl, hm⟩ := hs
  refine ⟨l.map f, gp_nodup_map hn (fun x y hx hy => hf x y ((hm x).1 hx) ((hm y).1 hy)), ?_, fun y => ?_⟩
  · rw [List.length_map, hl]
  · rw [List.mem_map]
    constructor
    · rintro ⟨x, hx, e⟩; exact ⟨x, (hm x).1 hx, e⟩
    · rintro ⟨x, hx, e⟩; exact ⟨x, (hm x).2 hx, e⟩

theorem gp_prod_list {α β : Type} (l' : List β) (hn' : l'.Nodup) : ∀ (l : List α), l.Nodup →
    ∃ m : List (α × β), m.Nodup ∧ m.length = l.length * l'.length ∧ ∀ x, x ∈ m ↔ x.1 ∈ l ∧ x.2 ∈ l' := by
  intro l
  induction l with
  | nil =>
    intro _
    refine ⟨[], List.nodup_nil, ?_, fun x => ?_⟩
    · simp
    · simp
  | cons a l ih =>
    intro hn
    rw [List.nodup_cons] at hn
    obtain ⟨m, hm1, hm2, hm3⟩ := ih hn.2
    refine ⟨l'.map (fun b => (a, b)) ++ m, ?_, ?_, fun x => ?_⟩
    · rw [List.nodup_append]
      refine ⟨gp_nodup_map hn' ?_, hm1, ?_⟩
      · intro x y _ _ e
        exact (Prod.mk.injEq _ _ _ _ ▸ e).2
      · intro x hx y hy e
        subst e
        rw [List.mem_map] at hx
        obtain ⟨b, _, rfl⟩ := hx
        exact hn.1 ((hm3 _).1 hy).1
    · rw [List.length_append, List.length_map, hm2, List.length_cons, Nat.add_mul, Nat.one_mul, Nat.add_comm]
    · rw [List.mem_append, hm3 x, List.mem_map, List.mem_cons]
      constructor
      · rintro (⟨b, hb, rfl⟩ | ⟨h1, h2⟩)
        · exact ⟨Or.inl rfl, hb⟩
        · exact ⟨Or.inr h1, h2⟩
      · rintro ⟨rfl | h1, h2⟩
        · exact Or.inl ⟨x.2, h2, rfl⟩
        · exact Or.inr ⟨h1, h2⟩

theorem gp_card_prod {α β : Type} {S : α → Prop} {T : β → Prop} {j k : Nat} (hs : gp_card S j)
    (ht : gp_card T k) : gp_card (fun x : α × β => S x.1 ∧ T x.2) (j * k) := by
  obtain ⟨l, hn, hl, hm⟩ := hs
  obtain ⟨l', hn', hl', hm'⟩ := ht
  obtain ⟨m, h1, h2, h3⟩ := gp_prod_list l' hn' l hn
  refine ⟨m, h1, by rw [h2, hl, hl'], fun x => ?_⟩
  rw [h3 x, hm, hm']

/-- classes of one size: their size divides -/
theorem gp_part {α : Type} {m : Nat} (R : α → α → Prop) (hr : ∀ x, R x x) (hsy : ∀ x y, R x y → R y x)
    (htr : ∀ x y z, R x y → R y z → R x z) :
    ∀ (k : Nat) (S : α → Prop), gp_card S k → (∀ x, S x → gp_card (fun y => S y ∧ R x y) m) → m ∣ k := by
  intro k
  induction k using Nat.strongRecOn with
  | _ k ih =>
    intro S hS hc
    by_cases h0 : ∃ x, S x
    · obtain ⟨x, hx⟩ := h0
      obtain ⟨j, hj⟩ := gp_card_sub (S := fun y => S y ∧ ¬ R x y) hS (fun _ h => h.1)
      have hk : m + j = k := gp_card_uniq (gp_card_add (hc x hx) hj) hS
      have hm : 0 < m := by
        rcases Nat.eq_zero_or_pos m with e | e
        · exfalso
          obtain ⟨l, _, hl, hm⟩ := hc x hx
          have := (hm x).2 ⟨hx, hr x⟩
          rw [e] at hl
          rw [List.length_eq_zero_iff.1 hl] at this
          exact absurd this (List.not_mem_nil)
        · exact e
      have := ih j (by omega) (fun y => S y ∧ ¬ R x y) hj (by
        intro y hy
        refine gp_card_congr (hc y hy.1) (fun z => ?_)
        constructor
        · rintro ⟨h1, h2⟩
          exact ⟨⟨h1, fun h3 => hy.2 (htr _ _ _ h3 (hsy _ _ h2))⟩, h2⟩
        · rintro ⟨h1, h2⟩
          exact ⟨h1.1, h2⟩)
      rw [← hk]
      exact (Nat.dvd_add_right (Nat.dvd_refl m)).2 this
    · obtain ⟨l, _, hl, hm⟩ := hS
      have : l = [] := by
        cases l with
        | nil => rfl
        | cons a l => exact absurd ⟨a, (hm a).1 (List.mem_cons_self ..)⟩ h0
      rw [← hl, this]
      exact Nat.dvd_zero m

/-- fibres of one size -/
theorem gp_fib {α β : Type} {m : Nat} (f : α → β) : ∀ (T : List β), T.Nodup → ∀ (S : α → Prop) (k : Nat), gp_card S k →
    (∀ x, S x → f x ∈ T) → (∀ y, y ∈ T → gp_card (fun x => S x ∧ f x = y) m) → k = T.length * m := by
  intro T
  induction T with
  | nil =>
    intro _ S k hS hT _
    obtain ⟨l, _, hl, hm⟩ := hS
    have : l = [] := by
      cases l with
      | nil => rfl
      | cons a l => exact absurd (hT a ((hm a).1 (List.mem_cons_self ..))) (List.not_mem_nil)
    rw [← hl, this]
    simp
  | cons y T ih =>
    intro hn S k hS hT hc
    rw [List.nodup_cons] at hn
    obtain ⟨j, hj⟩ := gp_card_sub (S := fun x => S x ∧ ¬ f x = y) hS (fun _ h => h.1)
    have hk : m + j = k := gp_card_uniq (gp_card_add (hc y (List.mem_cons_self ..)) hj) hS
    have := ih hn.2 (fun x => S x ∧ ¬ f x = y) j hj (by
      intro x hx
      rcases List.mem_cons.1 (hT x hx.1) with e | e
      · exact absurd e hx.2
      · exact e) (by
      intro z hz
      refine gp_card_congr (hc z (List.mem_cons_of_mem _ hz)) (fun x => ?_)
      constructor
      · rintro ⟨h1, h2⟩
        refine ⟨⟨h1, fun h3 => ?_⟩, h2⟩
        rw [← h3, h2] at hn
        exact hn.1 hz
      · rintro ⟨h1, h2⟩
        exact ⟨h1.1, h2⟩)
    rw [List.length_cons, Nat.add_mul, Nat.one_mul, ← this]
    omega

end

section

abbrev gp_f := Nat → Nat

def gp_inv (a b : gp_f) : Prop := (∀ p, a (b p) = p) ∧ (∀ p, b (a p) = p)

def gp_sg (G : gp_f → Prop) : Prop :=
  G id ∧ (∀ a b, G a → G b → G (a ∘ b)) ∧ (∀ a, G a → ∃ b, G b ∧ gp_inv a b)

def gp_sym (D : List Nat) (a : gp_f) : Prop := (∃ b, gp_inv a b) ∧ ∀ p, p ∉ D → a p = p

def gp_sub (H K : gp_f → Prop) : Prop := ∀ a, H a → K a
def gp_lt (H K : gp_f → Prop) : Prop := gp_sub H K ∧ ∃ a, K a ∧ ¬ H a

theorem gp_inv_symm {a b : gp_f} (h : gp_inv a b) : gp_inv b a := ⟨h.2, h.1⟩

theorem gp_inv_uniq {a b c : gp_f} (h : gp_inv a b) (h' : gp_inv a c) : b = c := by
  funext p
  have h1 := h.1 p
  have h2 := h'.2 (b p)
  rw [h1] at h2
  exact h2.symm

theorem gp_inv_inj {a b : gp_f} (h : gp_inv a b) {x y : Nat} (e : a x = a y) : x = y := by
  have := congrArg b e
  rw [h.2, h.2] at this
  exact this

theorem gp_inv_comp {a b c d : gp_f} (h : gp_inv a b) (h' : gp_inv c d) : gp_inv (a ∘ c) (d ∘ b) := by
  constructor
  · intro p
    show a (c (d (b p))) = p
    rw [h'.1, h.1]
  · intro p
    show d (b (a (c p))) = p
    rw [h.2, h'.2]

theorem gp_inv_id : gp_inv id id := ⟨fun _ => rfl, fun _ => rfl⟩

theorem gp_inv_eq {a b : gp_f} (h : gp_inv a b) : a ∘ b = id := funext h.1
theorem gp_inv_eq' {a b : gp_f} (h : gp_inv a b) : b ∘ a = id := funext h.2

theorem gp_sg_inv {G : gp_f → Prop} (hG : gp_sg G) {a b : gp_f} (ha : G a) (h : gp_inv a b) : G b := by
  obtain ⟨c, hc, hi⟩ := hG.2.2 a ha
  rw [gp_inv_uniq h hi]
  exact hc

theorem gp_sym_inv {D : List Nat} {a b : gp_f} (ha : gp_sym D a) (h : gp_inv a b) : gp_sym D b := by
  refine ⟨⟨a, gp_inv_symm h⟩, fun p hp => ?_⟩
  have := ha.2 p hp
  have h2 := h.2 p
  rw [this] at h2
  exact h2

theorem gp_sym_sg (D : List Nat) : gp_sg (gp_sym D) := by
  refine ⟨⟨⟨id, gp_inv_id⟩, fun _ _ => rfl⟩, ?_, ?_⟩
  · rintro a b ⟨⟨a', ha⟩, ha2⟩ ⟨⟨b', hb⟩, hb2⟩
    refine ⟨⟨b' ∘ a', gp_inv_comp ha hb⟩, fun p hp => ?_⟩
    show a (b p) = p
    rw [hb2 p hp, ha2 p hp]
  · rintro a ⟨⟨b, hb⟩, ha2⟩
    exact ⟨b, gp_sym_inv ⟨⟨b, hb⟩, ha2⟩ hb, hb⟩

theorem gp_sym_mem {D : List Nat} {a : gp_f} (ha : gp_sym D a) {p : Nat} (hp : p ∈ D) : a p ∈ D := by
  by_cases h : a p ∈ D
  · exact h
  · exfalso
    obtain ⟨⟨b, hb⟩, h2⟩ := ha
    have := gp_inv_inj hb (h2 _ h)
    rw [this] at h
    exact h hp

theorem gp_sym_mem' {D : List Nat} {a : gp_f} (ha : gp_sym D a) {p : Nat} (hp : a p ∈ D) : p ∈ D := by
  by_cases h : p ∈ D
  · exact h
  · rw [ha.2 p h] at hp
    exact hp

theorem gp_sym_mono {D D' : List Nat} (h : ∀ x, x ∈ D → x ∈ D') {a : gp_f} (ha : gp_sym D a) : gp_sym D' a :=
  ⟨ha.1, fun p hp => ha.2 p (fun h' => hp (h p h'))⟩

/-- the exchange of two -/
def gp_sw (a b : Nat) : gp_f := fun p => if p = a then b else if p = b then a else p

theorem gp_sw_a (a b : Nat) : gp_sw a b a = b := by simp [gp_sw]
theorem gp_sw_b (a b : Nat) : gp_sw a b b = a := by
  unfold gp_sw
  by_cases h : b = a
  · simp [h]
  · simp [h]
theorem gp_sw_n {a b p : Nat} (h1 : p ≠ a) (h2 : p ≠ b) : gp_sw a b p = p := by simp [gp_sw, h1, h2]

theorem gp_sw_self (a b p : Nat) : gp_sw a b (gp_sw a b p) = p := by
  by_cases h1 : p = a
  · rw [h1, gp_sw_a, gp_sw_b]
  · by_cases h2 : p = b
    · rw [h2, gp_sw_b, gp_sw_a]
    · rw [gp_sw_n h1 h2, gp_sw_n h1 h2]

theorem gp_sw_inv (a b : Nat) : gp_inv (gp_sw a b) (gp_sw a b) := ⟨gp_sw_self a b, gp_sw_self a b⟩

theorem gp_sw_sym {D : List Nat} {a b : Nat} (ha : a ∈ D) (hb : b ∈ D) : gp_sym D (gp_sw a b) := by
  refine ⟨⟨_, gp_sw_inv a b⟩, fun p hp => gp_sw_n ?_ ?_⟩
  · intro e; rw [e] at hp; exact hp ha
  · intro e; rw [e] at hp; exact hp hb

def gp_fac : Nat → Nat
  | 0 => 1
  | n + 1 => (n + 1) * gp_fac n

theorem gp_fac_pos (n : Nat) : 0 < gp_fac n := by
  induction n with
  | zero => exact Nat.one_pos
  | succ n ih => exact Nat.mul_pos (Nat.succ_pos n) ih

theorem gp_fac_le {m n : Nat} (h : m ≤ n) : gp_fac m ≤ gp_fac n := by
  induction n with
  | zero =>
    have : m = 0 := by omega
    rw [this]
    exact Nat.le_refl _
  | succ n ih =>
    by_cases e : m = n + 1
    · rw [e]; exact Nat.le_refl _
    · exact Nat.le_trans (ih (by omega)) (Nat.le_mul_of_pos_left _ (Nat.succ_pos n))

/-- how many put a set's places to each other -/
theorem gp_card_sym : ∀ (D : List Nat), D.Nodup → gp_card (gp_sym D) (gp_fac D.length) := by
  intro D
  induction D with
  | nil =>
    intro _
    refine ⟨[id], ?_, rfl, fun x => ?_⟩
    · simp
    · rw [List.mem_singleton]
      constructor
      · intro e; rw [e]; exact (gp_sym_sg []).1
      · intro h; funext p; exact h.2 p (List.not_mem_nil)
  | cons a D ih =>
    intro hn
    have hn2 := List.nodup_cons.1 hn
    have hD : gp_card (fun b => b ∈ a :: D) (D.length + 1) := ⟨a :: D, hn, rfl, fun _ => Iff.rfl⟩
    have hp := gp_card_prod hD (ih hn2.2)
    have hi := gp_card_img hp (fun x : Nat × gp_f => gp_sw a x.1 ∘ x.2) (by
      rintro ⟨b, t⟩ ⟨c, u⟩ h1 h2 e
      have e' : ∀ p, gp_sw a b (t p) = gp_sw a c (u p) := fun p => congrFun e p
      have hta : t a = a := h1.2.2 a hn2.1
      have hua : u a = a := h2.2.2 a hn2.1
      have hbc : b = c := by
        have := e' a
        rw [hta, hua, gp_sw_a, gp_sw_a] at this
        exact this
      subst hbc
      have htu : t = u := by
        funext p
        have := congrArg (gp_sw a b) (e' p)
        rw [gp_sw_self, gp_sw_self] at this
        exact this
      rw [htu])
    refine gp_card_congr hi (fun s => ?_)
    constructor
    · rintro ⟨⟨b, t⟩, ⟨hb, ht⟩, rfl⟩
      have h1 : gp_sym (a :: D) (gp_sw a b) := gp_sw_sym (List.mem_cons_self ..) hb
      have h2 : gp_sym (a :: D) t := gp_sym_mono (fun x hx => List.mem_cons_of_mem _ hx) ht
      exact (gp_sym_sg (a :: D)).2.1 _ _ h1 h2
    · intro hs
      have hb : s a ∈ a :: D := gp_sym_mem hs (List.mem_cons_self ..)
      have h1 : gp_sym (a :: D) (gp_sw a (s a)) := gp_sw_sym (List.mem_cons_self ..) hb
      have h2 := (gp_sym_sg (a :: D)).2.1 _ _ h1 hs
      refine ⟨(s a, gp_sw a (s a) ∘ s), ⟨hb, h2.1, fun p hp => ?_⟩, ?_⟩
      · by_cases e : p = a
        · rw [e]
          exact gp_sw_b a (s a)
        · refine h2.2 p (fun h => ?_)
          rcases List.mem_cons.1 h with h | h
          · exact e h
          · exact hp h
      · funext p
        exact gp_sw_self a (s a) (s p)

end
end
section
/-! Chains of groups, each in the next: how long; what divides; pure. -/
section

def gp_lam : Nat → (gp_f → Prop) → Prop
  | 0, H => gp_sg H
  | k + 1, H => gp_sg H ∧ ∃ K, gp_lam k K ∧ gp_lt K H

def gp_bd (H : gp_f → Prop) (L : Nat) : Prop := ∀ k, gp_lam k H → k ≤ L

theorem gp_lam_sg {k : Nat} {H : gp_f → Prop} (h : gp_lam k H) : gp_sg H := by
  cases k with
  | zero => exact h
  | succ k => exact h.1

theorem gp_lam_mono {k : Nat} {K H : gp_f → Prop} (h : gp_lam k K) (hs : gp_sub K H) (hg : gp_sg H) : gp_lam k H := by
  cases k with
  | zero => exact hg
  | succ k =>
    obtain ⟨_, K', h1, h2, a, h3, h4⟩ := h
    exact ⟨hg, K', h1, fun x hx => hs x (h2 x hx), a, hs a h3, h4⟩

theorem gp_bd_sub {K H : gp_f → Prop} {L : Nat} (hb : gp_bd H L) (hs : gp_sub K H) (hg : gp_sg H) : gp_bd K L :=
  fun k hk => hb k (gp_lam_mono hk hs hg)

theorem gp_bd_lt {K H : gp_f → Prop} {L k : Nat} (hb : gp_bd H L) (hk : gp_lam k K) (hs : gp_lt K H) (hg : gp_sg H) :
    k + 1 ≤ L := hb (k + 1) ⟨hg, K, hk, hs⟩

def gp_im (φ : gp_f → gp_f) (H : gp_f → Prop) : gp_f → Prop := fun y => ∃ a, H a ∧ φ a = y
def gp_ker (φ : gp_f → gp_f) (H : gp_f → Prop) : gp_f → Prop := fun a => H a ∧ φ a = id

/-- it keeps one behind the other, on H -/
def gp_hom (φ : gp_f → gp_f) (H : gp_f → Prop) : Prop :=
  φ id = id ∧ ∀ a b, H a → H b → φ (a ∘ b) = φ a ∘ φ b

theorem gp_hom_sub {φ : gp_f → gp_f} {K H : gp_f → Prop} (h : gp_hom φ H) (hs : gp_sub K H) : gp_hom φ K :=
  ⟨h.1, fun a b ha hb => h.2 a b (hs a ha) (hs b hb)⟩

theorem gp_hom_inv {φ : gp_f → gp_f} {H : gp_f → Prop} (h : gp_hom φ H) {a b : gp_f} (ha : H a) (hb : H b)
    (hi : gp_inv a b) : gp_inv (φ a) (φ b) := by
  have h1 := h.2 a b ha hb
  have h2 := h.2 b a hb ha
  rw [gp_inv_eq hi, h.1] at h1
  rw [gp_inv_eq' hi, h.1] at h2
  exact ⟨fun p => (congrFun h1 p).symm, fun p => (congrFun h2 p).symm⟩

theorem gp_im_sg {φ : gp_f → gp_f} {H : gp_f → Prop} (h : gp_hom φ H) (hg : gp_sg H) : gp_sg (gp_im φ H) := by
  refine ⟨⟨id, hg.1, h.1⟩, ?_, ?_⟩
  · rintro _ _ ⟨a, ha, rfl⟩ ⟨b, hb, rfl⟩
    exact ⟨a ∘ b, hg.2.1 a b ha hb, h.2 a b ha hb⟩
  · rintro _ ⟨a, ha, rfl⟩
    obtain ⟨b, hb, hi⟩ := hg.2.2 a ha
    exact ⟨φ b, ⟨b, hb, rfl⟩, gp_hom_inv h ha hb hi⟩

theorem gp_ker_sg {φ : gp_f → gp_f} {H : gp_f → Prop} (h : gp_hom φ H) (hg : gp_sg H) : gp_sg (gp_ker φ H) := by
  refine ⟨⟨hg.1, h.1⟩, ?_, ?_⟩
  · rintro a b ⟨ha, ha2⟩ ⟨hb, hb2⟩
    refine ⟨hg.2.1 a b ha hb, ?_⟩
    rw [h.2 a b ha hb, ha2, hb2]
    rfl
  · rintro a ⟨ha, ha2⟩
    obtain ⟨b, hb, hi⟩ := hg.2.2 a ha
    refine ⟨b, ⟨hb, ?_⟩, hi⟩
    have := gp_hom_inv h ha hb hi
    rw [ha2] at this
    exact funext this.1

theorem gp_hom_lam {φ : gp_f → gp_f} : ∀ (k : Nat) (H : gp_f → Prop), gp_hom φ H → gp_lam k H →
    ∃ k1 k2, k ≤ k1 + k2 ∧ gp_lam k1 (gp_im φ H) ∧ gp_lam k2 (gp_ker φ H) := by
  intro k
  induction k with
  | zero =>
    intro H hh hl
    exact ⟨0, 0, Nat.le_refl _, gp_im_sg hh hl, gp_ker_sg hh hl⟩
  | succ k ih =>
    rintro H hh ⟨hg, K, hK, hs, x, hx, hnx⟩
    have hhK := gp_hom_sub hh hs
    have hgK := gp_lam_sg hK
    obtain ⟨k1, k2, hk, h1, h2⟩ := ih K hhK hK
    have si : gp_sub (gp_im φ K) (gp_im φ H) := by
      rintro _ ⟨a, ha, rfl⟩
      exact ⟨a, hs a ha, rfl⟩
    have sk : gp_sub (gp_ker φ K) (gp_ker φ H) := fun a ha => ⟨hs a ha.1, ha.2⟩
    by_cases hi : ∃ y, gp_im φ H y ∧ ¬ gp_im φ K y
    · exact ⟨k1 + 1, k2, by omega, ⟨gp_im_sg hh hg, _, h1, si, hi⟩, gp_lam_mono h2 sk (gp_ker_sg hh hg)⟩
    · refine ⟨k1, k2 + 1, by omega, gp_lam_mono h1 si (gp_im_sg hh hg), gp_ker_sg hh hg, _, h2, sk, ?_⟩
      have : gp_im φ K (φ x) := by
        by_cases h : gp_im φ K (φ x)
        · exact h
        · exact absurd ⟨φ x, ⟨x, hx, rfl⟩, h⟩ hi
      obtain ⟨b, hb, e⟩ := this
      obtain ⟨b', hb', hbi⟩ := hgK.2.2 b hb
      refine ⟨x ∘ b', ⟨hg.2.1 _ _ hx (hs _ hb'), ?_⟩, fun hc => hnx ?_⟩
      · rw [hh.2 x b' hx (hs _ hb'), ← e]
        exact gp_inv_eq (gp_hom_inv hhK hb hb' hbi)
      · have h3 := hgK.2.1 _ _ hc.1 hb
        have h4 : (x ∘ b') ∘ b = x := by
          funext p
          show x (b' (b p)) = x p
          rw [hbi.2]
        rw [h4] at h3
        exact h3

theorem gp_bd_hom {φ : gp_f → gp_f} {H : gp_f → Prop} {L1 L2 : Nat} (hh : gp_hom φ H)
    (h1 : gp_bd (gp_im φ H) L1) (h2 : gp_bd (gp_ker φ H) L2) : gp_bd H (L1 + L2) := by
  intro k hk
  obtain ⟨k1, k2, h, h3, h4⟩ := gp_hom_lam k H hh hk
  have := h1 k1 h3
  have := h2 k2 h4
  omega

/-- a group that leaves all places -/
theorem gp_bd_triv {H : gp_f → Prop} (h : ∀ a, H a → a = id) : gp_bd H 0 := by
  intro k hk
  cases k with
  | zero => exact Nat.le_refl _
  | succ k =>
    exfalso
    obtain ⟨_, K, hK, _, x, hx, hnx⟩ := hk
    apply hnx
    rw [h x hx]
    exact (gp_lam_sg hK).1

/-- the parts of a group that go together have one size -/
theorem gp_lag {H K : gp_f → Prop} {a b : Nat} (hH : gp_sg H) (hK : gp_sg K) (hs : gp_sub H K)
    (ha : gp_card H a) (hb : gp_card K b) : a ∣ b := by
  refine gp_part (fun x y : gp_f => ∃ h, H h ∧ x ∘ h = y) ?_ ?_ ?_ b K hb ?_
  · intro x; exact ⟨id, hH.1, rfl⟩
  · rintro x y ⟨h, hh, rfl⟩
    obtain ⟨h', hh', hi⟩ := hH.2.2 h hh
    refine ⟨h', hh', ?_⟩
    funext p
    show x (h (h' p)) = x p
    rw [hi.1]
  · rintro x y z ⟨h, hh, rfl⟩ ⟨h', hh', rfl⟩
    exact ⟨h ∘ h', hH.2.1 _ _ hh hh', rfl⟩
  · intro x hx
    obtain ⟨x', _, hxi⟩ := hK.2.2 x hx
    refine gp_card_congr (gp_card_img ha (fun h => x ∘ h) ?_) (fun y => ?_)
    · intro h h' _ _ e
      funext p
      have : x (h p) = x (h' p) := congrFun e p
      exact gp_inv_inj hxi this
    · constructor
      · rintro ⟨h, hh, rfl⟩
        exact ⟨hK.2.1 _ _ hx (hs _ hh), h, hh, rfl⟩
      · rintro ⟨_, h, hh, e⟩
        exact ⟨h, hh, e⟩

/-- numbers, each a divisor of the next -/
def gp_dv : Nat → Nat → Prop
  | 0, d => 0 < d
  | k + 1, d => 0 < d ∧ ∃ e, gp_dv k e ∧ e ∣ d ∧ e < d

theorem gp_card_pos {H : gp_f → Prop} {d : Nat} (hH : gp_sg H) (h : gp_card H d) : 0 < d := by
  obtain ⟨l, _, hl, hm⟩ := h
  have := (hm id).2 hH.1
  cases l with
  | nil => exact absurd this (List.not_mem_nil)
  | cons a l => rw [← hl]; exact Nat.succ_pos _

theorem gp_lam_dv : ∀ (k : Nat) (H : gp_f → Prop) (d : Nat), gp_lam k H → gp_card H d → gp_dv k d := by
  intro k
  induction k with
  | zero => intro H d hl hc; exact gp_card_pos hl hc
  | succ k ih =>
    rintro H d ⟨hg, K, hK, hs, x, hx, hnx⟩ hc
    obtain ⟨e, he⟩ := gp_card_sub hc hs
    exact ⟨gp_card_pos hg hc, e, ih K e hK he, gp_lag (gp_lam_sg hK) hg hs he hc, gp_card_lt he hc hs x hx hnx⟩

def gp_prod : List Nat → Nat
  | [] => 1
  | p :: ps => p * gp_prod ps

def gp_prm (p : Nat) : Prop := 2 ≤ p ∧ ∀ d, d ∣ p → d = 1 ∨ d = p

theorem gp_div_list : ∀ (ps : List Nat), (∀ p, p ∈ ps → gp_prm p) → ∀ d, d ∣ gp_prod ps →
    ∃ qs, List.Sublist qs ps ∧ gp_prod qs = d := by
  intro ps
  induction ps with
  | nil =>
    intro _ d hd
    exact ⟨[], List.Sublist.slnil, (Nat.dvd_one.1 hd).symm⟩
  | cons p ps ih =>
    intro hp d hd
    have hpp := hp p (List.mem_cons_self ..)
    have hps := fun q hq => hp q (List.mem_cons_of_mem _ hq)
    by_cases h : p ∣ d
    · obtain ⟨e, rfl⟩ := h
      have : e ∣ gp_prod ps := Nat.dvd_of_mul_dvd_mul_left (by have := hpp.1; omega) hd
      obtain ⟨qs, h1, h2⟩ := ih hps e this
      exact ⟨p :: qs, h1.cons_cons p, by rw [gp_prod, h2]⟩
    · have hc : Nat.Coprime d p := by
        rcases hpp.2 (Nat.gcd d p) (Nat.gcd_dvd_right d p) with e | e
        · exact e
        · exfalso
          apply h
          rw [← e]
          exact Nat.gcd_dvd_left d p
      obtain ⟨qs, h1, h2⟩ := ih hps d (Nat.Coprime.dvd_of_dvd_mul_left hc hd)
      exact ⟨qs, h1.cons p, h2⟩

theorem gp_dv_list : ∀ (k d : Nat) (ps : List Nat), (∀ p, p ∈ ps → gp_prm p) → gp_prod ps = d → gp_dv k d →
    k ≤ ps.length := by
  intro k
  induction k with
  | zero => intro d ps _ _ _; exact Nat.zero_le _
  | succ k ih =>
    rintro d ps hp hd ⟨_, e, he, hdv, hlt⟩
    rw [← hd] at hdv
    obtain ⟨qs, h1, h2⟩ := gp_div_list ps hp e hdv
    have h3 := ih e qs (fun q hq => hp q (h1.subset hq)) h2 he
    have h4 := h1.length_le
    have h5 : qs.length ≠ ps.length := by
      intro e'
      have := h1.eq_of_length e'
      rw [this, hd] at h2
      omega
    omega

/-- of the factors below q: their product, and how many -/
def gp_pl (q : Nat) : List Nat → Nat
  | [] => 1
  | p :: ps => if p < q then p * gp_pl q ps else gp_pl q ps
def gp_cl (q : Nat) : List Nat → Nat
  | [] => 0
  | p :: ps => if p < q then gp_cl q ps + 1 else gp_cl q ps

theorem gp_weight (q : Nat) {qs ps : List Nat} (h : List.Sublist qs ps) :
    q ^ qs.length * gp_pl q ps ≤ gp_prod qs * q ^ gp_cl q ps := by
  induction h with
  | slnil => simp [gp_pl, gp_cl, gp_prod]
  | @cons l1 l2 p h ih =>
    by_cases hp : p < q
    · simp only [gp_pl, gp_cl, hp, if_true]
      calc q ^ l1.length * (p * gp_pl q l2) = (q ^ l1.length * gp_pl q l2) * p := by
            rw [Nat.mul_assoc, Nat.mul_comm p]
        _ ≤ (gp_prod l1 * q ^ gp_cl q l2) * q := Nat.mul_le_mul ih (Nat.le_of_lt hp)
        _ = gp_prod l1 * q ^ (gp_cl q l2 + 1) := by rw [Nat.pow_succ, Nat.mul_assoc]
    · simp only [gp_pl, gp_cl, hp, if_false]
      exact ih
  | @cons_cons l1 l2 p h ih =>
    by_cases hp : p < q
    · simp only [gp_pl, gp_cl, hp, if_true, gp_prod, List.length_cons]
      calc q ^ (l1.length + 1) * (p * gp_pl q l2) = (q ^ l1.length * gp_pl q l2) * (p * q) := by
            rw [Nat.pow_succ]; simp only [Nat.mul_assoc, Nat.mul_comm, Nat.mul_left_comm]
        _ ≤ (gp_prod l1 * q ^ gp_cl q l2) * (p * q) := Nat.mul_le_mul_right _ ih
        _ = p * gp_prod l1 * q ^ (gp_cl q l2 + 1) := by
            rw [Nat.pow_succ]; simp only [Nat.mul_assoc, Nat.mul_comm, Nat.mul_left_comm]
    · simp only [gp_pl, gp_cl, hp, if_false, gp_prod, List.length_cons]
      calc q ^ (l1.length + 1) * gp_pl q l2 = (q ^ l1.length * gp_pl q l2) * q := by
            rw [Nat.pow_succ]; simp only [Nat.mul_assoc, Nat.mul_comm, Nat.mul_left_comm]
        _ ≤ (gp_prod l1 * q ^ gp_cl q l2) * p := Nat.mul_le_mul ih (by omega)
        _ = p * gp_prod l1 * q ^ gp_cl q l2 := by
            simp only [Nat.mul_assoc, Nat.mul_comm, Nat.mul_left_comm]

/-- a chain of k numbers up to d, where d divides the product of ps and d m <= f: k is at most L -/
theorem gp_num {k d m f q L : Nat} {ps : List Nat} (hp : ∀ p, p ∈ ps → gp_prm p) (hd : d ∣ gp_prod ps)
    (hk : gp_dv k d) (hm : d * m ≤ f) (hq : 0 < q) (hc : f * q ^ gp_cl q ps < q ^ (L + 1) * gp_pl q ps * m) : k ≤ L := by
  obtain ⟨qs, h1, h2⟩ := gp_div_list ps hp d hd
  have h3 := gp_dv_list k d qs (fun q hq => hp q (h1.subset hq)) h2 hk
  have h4 := gp_weight q h1
  rw [h2] at h4
  by_cases h : k ≤ L
  · exact h
  · exfalso
    have h5 : q ^ (L + 1) ≤ q ^ qs.length := Nat.pow_le_pow_right hq (by omega)
    have h6 : q ^ (L + 1) * gp_pl q ps * m ≤ f * q ^ gp_cl q ps :=
      calc q ^ (L + 1) * gp_pl q ps * m ≤ q ^ qs.length * gp_pl q ps * m :=
            Nat.mul_le_mul_right _ (Nat.mul_le_mul_right _ h5)
        _ ≤ d * q ^ gp_cl q ps * m := Nat.mul_le_mul_right _ h4
        _ = d * m * q ^ gp_cl q ps := by
            simp only [Nat.mul_assoc, Nat.mul_comm, Nat.mul_left_comm]
        _ ≤ f * q ^ gp_cl q ps := Nat.mul_le_mul_right _ hm
    omega

end
end
section
/-! Three places put round; the classes that such give; groups that keep classes. Pure. -/
section

def gp_c3 (a b c : Nat) : gp_f := fun p => if p = a then b else if p = b then c else if p = c then a else p
def gp_d3 (a b c : Nat) : Prop := a ≠ b ∧ b ≠ c ∧ a ≠ c

theorem gp_c3_a (a b c : Nat) : gp_c3 a b c a = b := by simp [gp_c3]
theorem gp_c3_b {a b c : Nat} (h : gp_d3 a b c) : gp_c3 a b c b = c := by
  have := h.1
  simp [gp_c3, Ne.symm this]
theorem gp_c3_c {a b c : Nat} (h : gp_d3 a b c) : gp_c3 a b c c = a := by
  have h1 := h.2.1
  have h2 := h.2.2
  simp [gp_c3, Ne.symm h1, Ne.symm h2]
theorem gp_c3_n {a b c p : Nat} (h1 : p ≠ a) (h2 : p ≠ b) (h3 : p ≠ c) : gp_c3 a b c p = p := by
  simp [gp_c3, h1, h2, h3]

theorem gp_c3_rot {a b c : Nat} (h : gp_d3 a b c) : gp_c3 a b c = gp_c3 b c a := by
  funext p
  obtain ⟨h1, h2, h3⟩ := h
  by_cases ea : p = a
  · subst ea
    rw [gp_c3_a, gp_c3_c ⟨h2, Ne.symm h3, Ne.symm h1⟩]
  · by_cases eb : p = b
    · subst eb
      rw [gp_c3_a, gp_c3_b ⟨h1, h2, h3⟩]
    · by_cases ec : p = c
      · subst ec
        rw [gp_c3_c ⟨h1, h2, h3⟩, gp_c3_b ⟨h2, Ne.symm h3, Ne.symm h1⟩]
      · rw [gp_c3_n ea eb ec, gp_c3_n eb ec ea]

theorem gp_c3_back {a b c : Nat} (h : gp_d3 a b c) (p : Nat) : gp_c3 a c b (gp_c3 a b c p) = p := by
  have h' : gp_d3 a c b := ⟨h.2.2, Ne.symm h.2.1, h.1⟩
  by_cases ea : p = a
  · rw [ea, gp_c3_a, gp_c3_c h']
  · by_cases eb : p = b
    · rw [eb, gp_c3_b h, gp_c3_b h']
    · by_cases ec : p = c
      · rw [ec, gp_c3_c h, gp_c3_a]
      · rw [gp_c3_n ea eb ec, gp_c3_n ea ec eb]

theorem gp_c3_inv {a b c : Nat} (h : gp_d3 a b c) : gp_inv (gp_c3 a b c) (gp_c3 a c b) :=
  ⟨gp_c3_back (b := c) (c := b) ⟨h.2.2, Ne.symm h.2.1, h.1⟩, gp_c3_back h⟩

theorem gp_d3_map {g g' : gp_f} (hi : gp_inv g g') {a b c : Nat} (h : gp_d3 a b c) : gp_d3 (g a) (g b) (g c) :=
  ⟨fun e => h.1 (gp_inv_inj hi e), fun e => h.2.1 (gp_inv_inj hi e), fun e => h.2.2 (gp_inv_inj hi e)⟩

theorem gp_c3_conj {g g' : gp_f} (hi : gp_inv g g') {a b c : Nat} (h : gp_d3 a b c) :
    g ∘ gp_c3 a b c ∘ g' = gp_c3 (g a) (g b) (g c) := by
  have key : ∀ q, g (gp_c3 a b c q) = gp_c3 (g a) (g b) (g c) (g q) := by
    intro q
    by_cases ea : q = a
    · rw [ea, gp_c3_a, gp_c3_a]
    · by_cases eb : q = b
      · rw [eb, gp_c3_b h, gp_c3_b (gp_d3_map hi h)]
      · by_cases ec : q = c
        · rw [ec, gp_c3_c h, gp_c3_c (gp_d3_map hi h)]
        · rw [gp_c3_n ea eb ec, gp_c3_n (fun e => ea (gp_inv_inj hi e)) (fun e => eb (gp_inv_inj hi e))
            (fun e => ec (gp_inv_inj hi e))]
  funext p
  have := key (g' p)
  rw [hi.1] at this
  exact this

theorem gp_conj_mem {H : gp_f → Prop} (hH : gp_sg H) {g g' x : gp_f} (hg : H g) (hx : H x) (hi : gp_inv g g') :
    H (g ∘ x ∘ g') := hH.2.1 _ _ hg (hH.2.1 _ _ hx (gp_sg_inv hH hg hi))

def gp_R (H : gp_f → Prop) (a b : Nat) : Prop := a = b ∨ ∃ c, gp_d3 a b c ∧ H (gp_c3 a b c)

theorem gp_R_refl {H : gp_f → Prop} (a : Nat) : gp_R H a a := Or.inl rfl

theorem gp_c3_sw {H : gp_f → Prop} (hH : gp_sg H) {a b c : Nat} (h : gp_d3 a b c) (hc : H (gp_c3 a b c)) :
    gp_d3 b a c ∧ H (gp_c3 b a c) := by
  have h1 := gp_sg_inv hH hc (gp_c3_inv h)
  have h2 : gp_d3 a c b := ⟨h.2.2, Ne.symm h.2.1, h.1⟩
  have h3 : gp_d3 c b a := ⟨Ne.symm h.2.1, Ne.symm h.1, Ne.symm h.2.2⟩
  rw [gp_c3_rot h2, gp_c3_rot h3] at h1
  exact ⟨⟨Ne.symm h.1, h.2.2, h.2.1⟩, h1⟩

theorem gp_R_symm {H : gp_f → Prop} (hH : gp_sg H) {a b : Nat} (h : gp_R H a b) : gp_R H b a := by
  rcases h with e | ⟨c, h, hc⟩
  · exact Or.inl e.symm
  · exact Or.inr ⟨c, gp_c3_sw hH h hc⟩

theorem gp_R_trans {H : gp_f → Prop} (hH : gp_sg H) {a b d : Nat} (h1 : gp_R H a b) (h2 : gp_R H b d) : gp_R H a d := by
  rcases h1 with e | ⟨c, h, hc⟩
  · rw [e]; exact h2
  · rcases h2 with e | ⟨e, h', hc'⟩
    · rw [← e]; exact Or.inr ⟨c, h, hc⟩
    · by_cases ead : a = d
      · exact Or.inl ead
      · by_cases eae : a = e
        · subst eae
          rw [gp_c3_rot h'] at hc'
          have h3 : gp_d3 d a b := ⟨Ne.symm ead, h.1, Ne.symm h'.1⟩
          exact Or.inr ⟨b, gp_c3_sw hH h3 hc'⟩
        · have hi := gp_c3_inv h'
          have hm := gp_conj_mem hH hc' hc hi
          rw [gp_c3_conj hi h] at hm
          have hd := gp_d3_map hi h
          rw [gp_c3_n h.1 ead eae, gp_c3_a] at hm hd
          exact Or.inr ⟨_, hd, hm⟩

theorem gp_R_map {H : gp_f → Prop} (hH : gp_sg H) {g : gp_f} (hg : H g) {a b : Nat} (h : gp_R H a b) :
    gp_R H (g a) (g b) := by
  obtain ⟨g', _, hi⟩ := hH.2.2 g hg
  rcases h with e | ⟨c, h, hc⟩
  · rw [e]; exact Or.inl rfl
  · refine Or.inr ⟨g c, gp_d3_map hi h, ?_⟩
    rw [← gp_c3_conj hi h]
    exact gp_conj_mem hH hg hc hi

def gp_full (H : gp_f → Prop) (D : List Nat) : Prop :=
  ∀ a b c, a ∈ D → b ∈ D → c ∈ D → gp_d3 a b c → H (gp_c3 a b c)

theorem gp_c3_in {H : gp_f → Prop} {D : List Nat} (hs : gp_sub H (gp_sym D)) {a b c : Nat} (h : gp_d3 a b c)
    (hc : H (gp_c3 a b c)) : a ∈ D ∧ b ∈ D ∧ c ∈ D := by
  have h2 := (hs _ hc).2
  refine ⟨?_, ?_, ?_⟩
  · by_cases hd : a ∈ D
    · exact hd
    · have := h2 a hd
      rw [gp_c3_a] at this
      exact absurd this.symm h.1
  · by_cases hd : b ∈ D
    · exact hd
    · have := h2 b hd
      rw [gp_c3_b h] at this
      exact absurd this.symm h.2.1
  · by_cases hd : c ∈ D
    · exact hd
    · have := h2 c hd
      rw [gp_c3_c h] at this
      exact absurd this h.2.2

theorem gp_tot_full {H : gp_f → Prop} {D : List Nat} (hH : gp_sg H) (hs : gp_sub H (gp_sym D))
    (ht : ∀ a b, a ∈ D → b ∈ D → gp_R H a b) : gp_full H D := by
  intro a b c ha hb hc hd
  rcases ht a b ha hb with e | ⟨x, h1, hx⟩
  · exact absurd e hd.1
  · have hxD := (gp_c3_in hs h1 hx).2.2
    by_cases exc : x = c
    · rw [← exc]; exact hx
    · rcases ht x c hxD hc with e | ⟨y, h2, hy⟩
      · exact absurd e exc
      · by_cases eya : y = a
        · subst eya
          -- q back: x -> y -> c
          have hi := gp_inv_symm (gp_c3_inv h2)
          have hq := gp_sg_inv hH hy (gp_c3_inv h2)
          have hm := gp_conj_mem hH hq hx hi
          rw [gp_c3_conj hi h1] at hm
          have h2' : gp_d3 x y c := ⟨h2.2.2, Ne.symm h2.2.1, h2.1⟩
          rw [gp_c3_b h2', gp_c3_n h1.2.1 (Ne.symm hd.1) hd.2.1, gp_c3_a] at hm
          have h3 : gp_d3 c b y := ⟨Ne.symm hd.2.1, Ne.symm hd.1, Ne.symm hd.2.2⟩
          have h4 := gp_sg_inv hH hm (gp_c3_inv h3)
          rw [gp_c3_rot ⟨Ne.symm hd.2.2, hd.1, Ne.symm hd.2.1⟩] at h4
          exact h4
        · by_cases eyb : y = b
          · subst eyb
            have hi := gp_inv_symm (gp_c3_inv h2)
            have hq := gp_sg_inv hH hy (gp_c3_inv h2)
            have hm := gp_conj_mem hH hq hx hi
            rw [gp_c3_conj hi h1] at hm
            have h2' : gp_d3 x y c := ⟨h2.2.2, Ne.symm h2.2.1, h2.1⟩
            rw [gp_c3_b h2', gp_c3_n h1.2.2 hd.1 hd.2.2, gp_c3_a] at hm
            have h3 : gp_d3 a c y := ⟨hd.2.2, Ne.symm hd.2.1, hd.1⟩
            exact gp_sg_inv hH hm (gp_c3_inv h3)
          · have hi := gp_c3_inv h2
            have hm := gp_conj_mem hH hy hx hi
            rw [gp_c3_conj hi h1, gp_c3_n h1.2.2 hd.2.2 (Ne.symm eya), gp_c3_n h1.2.1 hd.2.1 (Ne.symm eyb), gp_c3_a] at hm
            exact hm

/-! ## what a group does on a part of the places -/
noncomputable def gp_res (p : Nat → Prop) (g : gp_f) : gp_f := fun x => @ite _ (p x) (Classical.propDecidable _) (g x) x

theorem gp_res_p {p : Nat → Prop} {g : gp_f} {x : Nat} (h : p x) : gp_res p g x = g x := by
  unfold gp_res; rw [if_pos h]
theorem gp_res_n {p : Nat → Prop} {g : gp_f} {x : Nat} (h : ¬ p x) : gp_res p g x = x := by
  unfold gp_res; rw [if_neg h]

theorem gp_res_hom {p : Nat → Prop} {H : gp_f → Prop} (hp : ∀ g, H g → ∀ x, p x → p (g x)) : gp_hom (gp_res p) H := by
  constructor
  · funext x
    by_cases h : p x
    · rw [gp_res_p h]
    · rw [gp_res_n h]; rfl
  · intro a b _ hb
    funext x
    show _ = gp_res p a (gp_res p b x)
    by_cases h : p x
    · rw [gp_res_p h, gp_res_p h, gp_res_p (hp b hb x h)]
      rfl
    · rw [gp_res_n h, gp_res_n h, gp_res_n h]

theorem gp_im_sym {φ : gp_f → gp_f} {H : gp_f → Prop} {E : List Nat} (hH : gp_sg H) (hh : gp_hom φ H)
    (hf : ∀ g, H g → ∀ x, x ∉ E → φ g x = x) : gp_sub (gp_im φ H) (gp_sym E) := by
  rintro _ ⟨a, ha, rfl⟩
  obtain ⟨b, hb, hi⟩ := hH.2.2 a ha
  exact ⟨⟨φ b, gp_hom_inv hh ha hb hi⟩, hf a ha⟩

theorem gp_bd_split {D D1 D2 : List Nat} {p : Nat → Prop} {H : gp_f → Prop} {L1 L2 : Nat} (hH : gp_sg H)
    (hs : gp_sub H (gp_sym D)) (hp : ∀ g, H g → ∀ x, p x → p (g x)) (h1 : ∀ x, x ∈ D → p x → x ∈ D1)
    (h2 : ∀ x, x ∈ D → ¬ p x → x ∈ D2) (b1 : ∀ K, gp_sg K → gp_sub K (gp_sym D1) → gp_bd K L1)
    (b2 : ∀ K, gp_sg K → gp_sub K (gp_sym D2) → gp_bd K L2) : gp_bd H (L1 + L2) := by
  have hh := gp_res_hom hp
  refine gp_bd_hom hh (b1 _ (gp_im_sg hh hH) ?_) (b2 _ (gp_ker_sg hh hH) ?_)
  · refine gp_im_sym hH hh (fun g hg x hx => ?_)
    by_cases h : p x
    · rw [gp_res_p h]
      exact (hs g hg).2 x (fun hd => hx (h1 x hd h))
    · exact gp_res_n h
  · rintro g ⟨hg, e⟩
    refine ⟨(hs g hg).1, fun x hx => ?_⟩
    by_cases h : p x
    · have := congrFun e x
      rw [gp_res_p h] at this
      exact this
    · exact (hs g hg).2 x (fun hd => hx (h2 x hd h))

/-- each class kept: class by class -/
theorem gp_bd_cls {D : List Nat} {rep : Nat → Nat} {L : Nat} : ∀ (T : List Nat) (K : gp_f → Prop), gp_sg K →
    gp_sub K (gp_sym D) → (∀ g, K g → ∀ x, rep (g x) = rep x) → (∀ g, K g → ∀ x, x ∈ D → rep x ∉ T → g x = x) →
    (∀ y, y ∈ T → ∀ K', gp_sg K' → gp_sub K' (gp_sym (D.filter (fun x => decide (rep x = y)))) → gp_bd K' L) →
    gp_bd K (T.length * L) := by
  intro T
  induction T with
  | nil =>
    intro K hK hs hr hf _
    have : gp_bd K 0 := gp_bd_triv (fun g hg => by
      funext x
      by_cases h : x ∈ D
      · exact hf g hg x h (List.not_mem_nil)
      · exact (hs g hg).2 x h)
    simpa using this
  | cons y T ih =>
    intro K hK hs hr hf hb
    have hh : gp_hom (gp_res (fun x => rep x = y)) K := gp_res_hom (fun g hg x hx => by rw [hr g hg x]; exact hx)
    have e : (y :: T).length * L = L + T.length * L := by
      rw [List.length_cons, Nat.add_mul, Nat.one_mul, Nat.add_comm]
    rw [e]
    refine gp_bd_hom hh (hb y (List.mem_cons_self ..) _ (gp_im_sg hh hK) ?_) (ih _ (gp_ker_sg hh hK) ?_ ?_ ?_ ?_)
    · refine gp_im_sym hK hh (fun g hg x hx => ?_)
      by_cases h : rep x = y
      · rw [gp_res_p (p := fun x => rep x = y) h]
        refine (hs g hg).2 x (fun hd => hx ?_)
        rw [List.mem_filter]
        exact ⟨hd, decide_eq_true h⟩
      · exact gp_res_n (p := fun x => rep x = y) h
    · exact fun g hg => hs g hg.1
    · exact fun g hg => hr g hg.1
    · intro g hg x hx hT
      by_cases h : rep x = y
      · have := congrFun hg.2 x
        rw [gp_res_p (p := fun x => rep x = y) h] at this
        exact this
      · refine hf g hg.1 x hx (fun hm => ?_)
        rcases List.mem_cons.1 hm with h' | h'
        · exact h h'
        · exact hT h'
    · exact fun z hz => hb z (List.mem_cons_of_mem _ hz)

/-- the classes moved as wholes, and then each kept -/
theorem gp_bd_blocks {D T : List Nat} {R : Nat → Nat → Prop} {rep : Nat → Nat} {H : gp_f → Prop} {L M : Nat}
    (hH : gp_sg H) (hs : gp_sub H (gp_sym D)) (hR : ∀ g, H g → ∀ x y, x ∈ D → y ∈ D → R x y → R (g x) (g y))
    (r1 : ∀ x y, x ∈ D → y ∈ D → R x y → rep x = rep y) (r2 : ∀ x, x ∈ D → R x (rep x) ∧ rep x ∈ D)
    (hT : ∀ x, x ∈ T ↔ x ∈ D ∧ rep x = x)
    (bT : ∀ K, gp_sg K → gp_sub K (gp_sym T) → gp_bd K M)
    (bC : ∀ y, y ∈ T → ∀ K', gp_sg K' → gp_sub K' (gp_sym (D.filter (fun x => decide (rep x = y)))) → gp_bd K' L) :
    gp_bd H (M + T.length * L) := by
  have rr : ∀ x, x ∈ D → rep x ∈ T := fun x hx =>
    (hT _).2 ⟨(r2 x hx).2, (r1 x (rep x) hx (r2 x hx).2 (r2 x hx).1).symm⟩
  have hgD : ∀ g, H g → ∀ x, x ∈ D → g x ∈ D := fun g hg x hx => gp_sym_mem (hs g hg) hx
  have hrg : ∀ g, H g → ∀ x, x ∈ D → rep (g x) = rep (g (rep x)) := fun g hg x hx =>
    r1 _ _ (hgD g hg x hx) (hgD g hg _ (r2 x hx).2) (hR g hg x _ hx (r2 x hx).2 (r2 x hx).1)
  have hh : gp_hom (fun g => gp_res (fun x => x ∈ T) (fun x => rep (g x))) H := by
    constructor
    · funext x
      by_cases h : x ∈ T
      · show gp_res (fun x => x ∈ T) (fun x => rep (id x)) x = id x
        rw [gp_res_p (p := fun x => x ∈ T) h]
        exact ((hT x).1 h).2
      · exact gp_res_n (p := fun x => x ∈ T) h
    · intro a b ha hb
      funext x
      show gp_res (fun x => x ∈ T) (fun x => rep ((a ∘ b) x)) x =
        gp_res (fun x => x ∈ T) (fun x => rep (a x)) (gp_res (fun x => x ∈ T) (fun x => rep (b x)) x)
      by_cases h : x ∈ T
      · have hx := ((hT x).1 h).1
        rw [gp_res_p (p := fun x => x ∈ T) h, gp_res_p (p := fun x => x ∈ T) h, gp_res_p (p := fun x => x ∈ T) (rr _ (hgD b hb x hx))]
        exact hrg a ha (b x) (hgD b hb x hx)
      · rw [gp_res_n (p := fun x => x ∈ T) h, gp_res_n (p := fun x => x ∈ T) h, gp_res_n (p := fun x => x ∈ T) h]
  refine gp_bd_hom hh (bT _ (gp_im_sg hh hH) ?_) (gp_bd_cls T _ (gp_ker_sg hh hH) ?_ ?_ ?_ bC)
  · refine gp_im_sym hH hh (fun g hg x hx => ?_)
    exact gp_res_n (p := fun x => x ∈ T) hx
  · exact fun g hg => hs g hg.1
  · rintro g ⟨hg, e⟩ x
    by_cases hx : x ∈ D
    · rw [hrg g hg x hx]
      have := congrFun e (rep x)
      have h2 : gp_res (fun x => x ∈ T) (fun x => rep (g x)) (rep x) = rep x := this
      rw [gp_res_p (p := fun x => x ∈ T) (rr x hx)] at h2
      exact h2
    · rw [(hs g hg).2 x hx]
  · intro g _ x hx hn
    exact absurd (rr x hx) hn

end
end
section
/-! Groups in which no three places are put round alone: how large at most. Pure. -/
section

def gp_no3 (H : gp_f → Prop) : Prop := ∀ a b c, gp_d3 a b c → ¬ H (gp_c3 a b c)

def gp_base (H : gp_f → Prop) (B : List Nat) : Prop := ∀ h, H h → (∀ b, b ∈ B → h b = b) → h = id

theorem gp_min_base {H : gp_f → Prop} {D : List Nat} (hs : gp_sub H (gp_sym D)) (hn : D.Nodup) :
    ∃ B : List Nat, B.Nodup ∧ (∀ x, x ∈ B → x ∈ D) ∧ gp_base H B ∧
      ∀ a, a ∈ B → ∃ h, H h ∧ h ≠ id ∧ ∀ b, b ∈ B → b ≠ a → h b = b := by
  have main : ∀ (k : Nat) (B : List Nat), B.length = k → B.Nodup → (∀ x, x ∈ B → x ∈ D) → gp_base H B →
      ∃ B : List Nat, B.Nodup ∧ (∀ x, x ∈ B → x ∈ D) ∧ gp_base H B ∧
      ∀ a, a ∈ B → ∃ h, H h ∧ h ≠ id ∧ ∀ b, b ∈ B → b ≠ a → h b = b := by
    intro k
    induction k with
    | zero =>
      intro B hB h1 h2 h3
      refine ⟨B, h1, h2, h3, fun a ha => ?_⟩
      rw [List.length_eq_zero_iff.1 hB] at ha
      exact absurd ha (List.not_mem_nil)
    | succ k ih =>
      intro B hB h1 h2 h3
      by_cases hc : ∃ a, a ∈ B ∧ gp_base H (B.erase a)
      · obtain ⟨a, ha, hb⟩ := hc
        refine ih (B.erase a) ?_ (h1.erase a) (fun x hx => h2 x (List.mem_of_mem_erase hx)) hb
        rw [List.length_erase_of_mem ha, hB]
        rfl
      · refine ⟨B, h1, h2, h3, fun a ha => ?_⟩
        by_cases hh : ∃ h, H h ∧ h ≠ id ∧ ∀ b, b ∈ B → b ≠ a → h b = b
        · exact hh
        · exfalso
          apply hc
          refine ⟨a, ha, fun h hh' hf => ?_⟩
          by_cases e : h = id
          · exact e
          · exact absurd ⟨h, hh', e, fun b hb hba => hf b ((h1.mem_erase_iff).2 ⟨hba, hb⟩)⟩ hh
  refine main D.length D rfl hn (fun _ h => h) (fun h hh hf => ?_)
  funext x
  by_cases hx : x ∈ D
  · exact hf x hx
  · exact (hs h hh).2 x hx

/-- two maps that meet in one place only give three places put round -/
theorem gp_comm3 {B : List Nat} {g g' h h' : gp_f} {a : Nat} (hg : gp_inv g g') (hh : gp_inv h h') (ha : a ∈ B)
    (gB : ∀ x, x ∉ B → g x = x) (hB : ∀ x, x ∈ B → x ≠ a → h x = x) (ga : g a ≠ a) (ha' : h a ≠ a) :
    gp_d3 a (g a) (h a) ∧ g ∘ h ∘ g' ∘ h' = gp_c3 a (g a) (h a) := by
  have gmem : ∀ x, x ∈ B → g x ∈ B := by
    intro x hx
    by_cases e : g x ∈ B
    · exact e
    · have := gp_inv_inj hg (gB _ e)
      rw [this] at e
      exact absurd hx e
  have g'mem : ∀ x, x ∈ B → g' x ∈ B := by
    intro x hx
    by_cases e : g' x ∈ B
    · exact e
    · have := gB _ e
      rw [hg.1] at this
      rw [← this] at e
      exact absurd hx e
  have g'B : ∀ x, x ∉ B → g' x = x := by
    intro x hx
    have := hg.2 x
    rw [gB x hx] at this
    exact this
  have hna : h a ∉ B := by
    intro e
    have := hB _ e ha'
    exact ha' (gp_inv_inj hh this)
  have h'B : ∀ x, x ∈ B → x ≠ a → h' x = x := by
    intro x hx hxa
    have := hh.2 x
    rw [hB x hx hxa] at this
    exact this
  have h'a : h' a ∉ B := by
    intro e
    have e2 : h' a ≠ a := by
      intro e3
      have := hh.1 a
      rw [e3] at this
      exact ha' this
    have := hB _ e e2
    rw [hh.1] at this
    exact e2 this.symm
  have hd : gp_d3 a (g a) (h a) := ⟨Ne.symm ga, fun e => hna (e ▸ gmem a ha), Ne.symm ha'⟩
  refine ⟨hd, ?_⟩
  funext p
  show g (h (g' (h' p))) = _
  by_cases ea : p = a
  · rw [ea, gp_c3_a, g'B _ h'a, hh.1]
  · by_cases eb : p = g a
    · rw [eb, gp_c3_b hd, h'B _ (gmem a ha) ga, hg.2, gB _ hna]
    · by_cases ec : p = h a
      · have e1 : g' a ≠ a := by
          intro e
          have := hg.1 a
          rw [e] at this
          exact ga this
        rw [ec, gp_c3_c hd, hh.2, hB _ (g'mem a ha) e1, hg.1]
      · rw [gp_c3_n ea eb ec]
        have hqa : h' p ≠ a := by
          intro e
          apply ec
          rw [← e, hh.1]
        by_cases hq : h' p ∈ B
        · have e1 := hB _ hq hqa
          rw [hh.1] at e1
          rw [← e1] at hq ⊢
          have e2 : g' p ≠ a := by
            intro e
            apply eb
            rw [← e, hg.1]
          rw [hB _ (g'mem p hq) e2, hg.1]
        · rw [g'B _ hq, hh.1]
          apply gB
          intro hp
          have := h'B p hp ea
          rw [this] at hq
          exact hq hp

/-- a set of half the places on which the group does nothing alone -/
theorem gp_half {H : gp_f → Prop} {D : List Nat} (hH : gp_sg H) (hs : gp_sub H (gp_sym D)) (hn : D.Nodup)
    (h3 : gp_no3 H) : ∃ E : List Nat, E.Nodup ∧ (∀ x, x ∈ E → x ∈ D) ∧ (D.length + 1) / 2 ≤ E.length ∧
      ∀ h, H h → gp_sym E h → h = id := by
  obtain ⟨B, hB1, hB2, hB3, hB4⟩ := gp_min_base hs hn
  by_cases hc : 2 * B.length ≤ D.length
  · refine ⟨D.filter (fun x => decide (x ∉ B)), List.Nodup.sublist List.filter_sublist hn,
      fun x hx => (List.mem_filter.1 hx).1, ?_, fun h hh hf => ?_⟩
    · have h1 : gp_card (fun x => x ∈ D ∧ x ∈ B) B.length := ⟨B, hB1, rfl, fun x => ⟨fun h => ⟨hB2 x h, h⟩, fun h => h.2⟩⟩
      have h2 : gp_card (fun x => x ∈ D ∧ ¬ x ∈ B) (D.filter (fun x => decide (x ∉ B))).length :=
        ⟨_, List.Nodup.sublist List.filter_sublist hn, rfl, fun x => by simp [List.mem_filter]⟩
      have h4 : gp_card (fun x => x ∈ D) D.length := ⟨D, hn, rfl, fun _ => Iff.rfl⟩
      have := gp_card_uniq (gp_card_add h1 h2) h4
      omega
    · refine hB3 h hh (fun b hb => hf.2 b (fun hm => ?_))
      have := (List.mem_filter.1 hm).2
      simp at this
      exact this hb
  · refine ⟨B, hB1, hB2, by omega, fun g hg hf => ?_⟩
    by_cases e : g = id
    · exact e
    · exfalso
      have : ∃ a, g a ≠ a := by
        by_cases h : ∃ a, g a ≠ a
        · exact h
        · exfalso
          apply e
          funext x
          by_cases h' : g x = x
          · exact h'
          · exact absurd ⟨x, h'⟩ h
      obtain ⟨a, ga⟩ := this
      have haB : a ∈ B := by
        by_cases h : a ∈ B
        · exact h
        · exact absurd (hf.2 a h) ga
      obtain ⟨h, hh, hne, hfix⟩ := hB4 a haB
      have ha' : h a ≠ a := by
        intro e'
        apply hne
        refine hB3 h hh (fun b hb => ?_)
        by_cases hba : b = a
        · rw [hba]; exact e'
        · exact hfix b hb hba
      obtain ⟨g', hg', hgi⟩ := hH.2.2 g hg
      obtain ⟨h', hh', hhi⟩ := hH.2.2 h hh
      obtain ⟨hd, hx⟩ := gp_comm3 hgi hhi haB hf.2 hfix ga ha'
      apply h3 _ _ _ hd
      rw [← hx]
      exact hH.2.1 _ _ hg (hH.2.1 _ _ hh (hH.2.1 _ _ hg' hh'))

theorem gp_half_card {H : gp_f → Prop} {D : List Nat} {d : Nat} (hH : gp_sg H) (hs : gp_sub H (gp_sym D)) (hn : D.Nodup)
    (h3 : gp_no3 H) (hd : gp_card H d) : d * gp_fac ((D.length + 1) / 2) ≤ gp_fac D.length := by
  obtain ⟨E, hE1, hE2, hE3, hE4⟩ := gp_half hH hs hn h3
  have hp := gp_card_prod hd (gp_card_sym E hE1)
  have hi := gp_card_img hp (fun x : gp_f × gp_f => x.1 ∘ x.2) (by
    rintro ⟨a, s⟩ ⟨b, t⟩ ⟨ha, hsE⟩ ⟨hb, htE⟩ e
    have e' : ∀ p, a (s p) = b (t p) := fun p => congrFun e p
    obtain ⟨b', hb', hbi⟩ := hH.2.2 b hb
    obtain ⟨s', hs', hsi⟩ := (gp_sym_sg E).2.2 s hsE
    have h1 : b' ∘ a = t ∘ s' := by
      funext p
      show b' (a p) = t (s' p)
      have := e' (s' p)
      rw [hsi.1] at this
      rw [this, hbi.2]
    have h2 : b' ∘ a = id := hE4 _ (hH.2.1 _ _ hb' ha) (by
      rw [h1]; exact (gp_sym_sg E).2.1 _ _ htE hs')
    have hab : a = b := by
      funext p
      have := congrFun h2 p
      have h3 : b' (a p) = p := this
      have h4 := congrArg b h3
      rw [hbi.1] at h4
      exact h4
    have hst : s = t := by
      funext p
      have h5 := congrArg b' (e' p)
      rw [hab, hbi.2, hbi.2] at h5
      exact h5
    rw [hab, hst])
  have h1 := gp_card_le hi (gp_card_sym D hn) (by
    rintro _ ⟨⟨a, s⟩, ⟨ha, hsE⟩, rfl⟩
    exact (gp_sym_sg D).2.1 _ _ (hs a ha) (gp_sym_mono hE2 hsE))
  exact Nat.le_trans (Nat.mul_le_mul_left _ (gp_fac_le hE3)) h1

/-- the three: leave all, round, and round the other way -/
def gp_z3 (a b c : Nat) (x : gp_f) : Prop := x = id ∨ x = gp_c3 a b c ∨ x = gp_c3 a c b

theorem gp_c3_sq {a b c : Nat} (h : gp_d3 a b c) : gp_c3 a b c ∘ gp_c3 a b c = gp_c3 a c b := by
  have h' : gp_d3 a c b := ⟨h.2.2, Ne.symm h.2.1, h.1⟩
  funext p
  show gp_c3 a b c (gp_c3 a b c p) = _
  by_cases ea : p = a
  · rw [ea, gp_c3_a, gp_c3_a, gp_c3_b h]
  · by_cases eb : p = b
    · rw [eb, gp_c3_b h, gp_c3_c h, gp_c3_c h']
    · by_cases ec : p = c
      · rw [ec, gp_c3_c h, gp_c3_a, gp_c3_b h']
      · rw [gp_c3_n ea eb ec, gp_c3_n ea eb ec, gp_c3_n ea ec eb]

theorem gp_z3_sg {a b c : Nat} (h : gp_d3 a b c) : gp_sg (gp_z3 a b c) := by
  have h' : gp_d3 a c b := ⟨h.2.2, Ne.symm h.2.1, h.1⟩
  refine ⟨Or.inl rfl, ?_, ?_⟩
  · rintro x y (rfl | rfl | rfl) (rfl | rfl | rfl)
    · exact Or.inl rfl
    · exact Or.inr (Or.inl rfl)
    · exact Or.inr (Or.inr rfl)
    · exact Or.inr (Or.inl rfl)
    · exact Or.inr (Or.inr (gp_c3_sq h))
    · exact Or.inl (gp_inv_eq (gp_c3_inv h))
    · exact Or.inr (Or.inr rfl)
    · exact Or.inl (gp_inv_eq (gp_c3_inv h'))
    · exact Or.inr (Or.inl (gp_c3_sq h'))
  · rintro x (rfl | rfl | rfl)
    · exact ⟨id, Or.inl rfl, gp_inv_id⟩
    · exact ⟨_, Or.inr (Or.inr rfl), gp_c3_inv h⟩
    · exact ⟨_, Or.inr (Or.inl rfl), gp_c3_inv h'⟩

theorem gp_z3_card {a b c : Nat} (h : gp_d3 a b c) : gp_card (gp_z3 a b c) 3 := by
  have h' : gp_d3 a c b := ⟨h.2.2, Ne.symm h.2.1, h.1⟩
  refine ⟨[id, gp_c3 a b c, gp_c3 a c b], ?_, rfl, fun x => ?_⟩
  · have e1 : id ≠ gp_c3 a b c := by
      intro e
      have := congrFun e a
      rw [gp_c3_a] at this
      exact h.1 this
    have e2 : id ≠ gp_c3 a c b := by
      intro e
      have := congrFun e a
      rw [gp_c3_a] at this
      exact h.2.2 this
    have e3 : gp_c3 a b c ≠ gp_c3 a c b := by
      intro e
      have := congrFun e a
      rw [gp_c3_a, gp_c3_a] at this
      exact h.2.1 this
    simp [e1, e2, e3]
  · simp [gp_z3]

theorem gp_third {H : gp_f → Prop} {D : List Nat} {d : Nat} (hH : gp_sg H) (hs : gp_sub H (gp_sym D)) (hn : D.Nodup)
    (hl : 3 ≤ D.length) (h3 : gp_no3 H) (hd : gp_card H d) : 3 * d ∣ gp_fac D.length := by
  match D, hn, hl, hs with
  | a :: b :: c :: D', hn, _, hs =>
    have hd3 : gp_d3 a b c := by
      simp only [List.nodup_cons, List.mem_cons, not_or] at hn
      exact ⟨hn.1.1, hn.2.1.1, hn.1.2.1⟩
    have hZ := gp_z3_sg hd3
    have hZs : gp_sub (gp_z3 a b c) (gp_sym (a :: b :: c :: D')) := by
      have aux : ∀ x y z, gp_d3 x y z → x ∈ a :: b :: c :: D' → y ∈ a :: b :: c :: D' → z ∈ a :: b :: c :: D' →
          gp_sym (a :: b :: c :: D') (gp_c3 x y z) := by
        intro x y z hxyz hx hy hz
        refine ⟨⟨_, gp_c3_inv hxyz⟩, fun p hp => gp_c3_n ?_ ?_ ?_⟩
        · intro e; exact hp (e ▸ hx)
        · intro e; exact hp (e ▸ hy)
        · intro e; exact hp (e ▸ hz)
      rintro x (rfl | rfl | rfl)
      · exact (gp_sym_sg _).1
      · exact aux a b c hd3 (by simp) (by simp) (by simp)
      · exact aux a c b ⟨hd3.2.2, Ne.symm hd3.2.1, hd3.1⟩ (by simp) (by simp) (by simp)
    have hp := gp_card_prod (gp_z3_card hd3) hd
    refine gp_part (fun x y : gp_f => ∃ z h, gp_z3 a b c z ∧ H h ∧ z ∘ x ∘ h = y) ?_ ?_ ?_ _ _ (gp_card_sym _ hn) ?_
    · intro x; exact ⟨id, id, hZ.1, hH.1, rfl⟩
    · rintro x y ⟨z, h, hz, hh, rfl⟩
      obtain ⟨z', hz', hzi⟩ := hZ.2.2 z hz
      obtain ⟨h', hh', hhi⟩ := hH.2.2 h hh
      refine ⟨z', h', hz', hh', ?_⟩
      funext p
      show z' (z (x (h (h' p)))) = x p
      rw [hzi.2, hhi.1]
    · rintro x y w ⟨z, h, hz, hh, rfl⟩ ⟨z', h', hz', hh', rfl⟩
      exact ⟨z' ∘ z, h ∘ h', hZ.2.1 _ _ hz' hz, hH.2.1 _ _ hh hh', rfl⟩
    · intro x hx
      obtain ⟨x', hx', hxi⟩ := (gp_sym_sg _).2.2 x hx
      refine gp_card_congr (gp_card_img hp (fun y : gp_f × gp_f => y.1 ∘ x ∘ y.2) ?_) (fun y => ?_)
      · rintro ⟨u, h⟩ ⟨v, k⟩ ⟨hu, hh⟩ ⟨hv, hk⟩ e
        have e' : ∀ p, u (x (h p)) = v (x (k p)) := fun p => congrFun e p
        obtain ⟨v', hv', hvi⟩ := hZ.2.2 v hv
        obtain ⟨h', hh', hhi⟩ := hH.2.2 h hh
        have e2 : x' ∘ (v' ∘ u) ∘ x = k ∘ h' := by
          funext p
          show x' (v' (u (x p))) = k (h' p)
          have := e' (h' p)
          rw [hhi.1] at this
          rw [this, hvi.2, hxi.2]
        have hm : H (x' ∘ (v' ∘ u) ∘ x) := by
          rw [e2]; exact hH.2.1 _ _ hk hh'
        have hw : v' ∘ u = id := by
          have hxi' := gp_inv_symm hxi
          rcases hZ.2.1 _ _ hv' hu with h1 | h1 | h1
          · exact h1
          · exfalso
            rw [h1, gp_c3_conj hxi' hd3] at hm
            exact h3 _ _ _ (gp_d3_map hxi' hd3) hm
          · exfalso
            have hd3' : gp_d3 a c b := ⟨hd3.2.2, Ne.symm hd3.2.1, hd3.1⟩
            rw [h1, gp_c3_conj hxi' hd3'] at hm
            exact h3 _ _ _ (gp_d3_map hxi' hd3') hm
        have huv : u = v := by
          funext p
          have h4 : v' (u p) = p := congrFun hw p
          have h5 := congrArg v h4
          rw [hvi.1] at h5
          exact h5
        have hhk : h = k := by
          funext p
          have h5 := congrArg v' (e' p)
          rw [huv, hvi.2, hvi.2] at h5
          exact gp_inv_inj hxi h5
        rw [huv, hhk]
      · constructor
        · rintro ⟨⟨u, h⟩, ⟨hu, hh⟩, rfl⟩
          refine ⟨?_, u, h, hu, hh, rfl⟩
          exact (gp_sym_sg _).2.1 _ _ (hZs u hu) ((gp_sym_sg _).2.1 _ _ hx (hs h hh))
        · rintro ⟨_, u, h, hu, hh, e⟩
          exact ⟨(u, h), ⟨hu, hh⟩, e⟩

end
end
section
/-! The longest chain of groups on n places: at most 3 n / 2 steps, n up to 23. Pure. -/
section

def gp_g (n : Nat) : Nat :=
  [0, 0, 1, 2, 4, 5, 7, 8, 10, 11, 13, 14, 16, 17, 19, 20, 24, 25, 27, 28, 30, 31, 33, 34].getD n 0

theorem gp_sw_comm (a b : Nat) : gp_sw a b = gp_sw b a := by
  funext p
  by_cases h1 : p = a
  · rw [h1, gp_sw_a, gp_sw_b]
  · by_cases h2 : p = b
    · rw [h2, gp_sw_a, gp_sw_b]
    · rw [gp_sw_n h1 h2, gp_sw_n h2 h1]

theorem gp_sw_share {a b c : Nat} (h : gp_d3 a b c) : gp_sw a b ∘ gp_sw b c = gp_c3 a b c := by
  funext p
  show gp_sw a b (gp_sw b c p) = _
  by_cases ea : p = a
  · rw [ea, gp_c3_a, gp_sw_n h.1 h.2.2, gp_sw_a]
  · by_cases eb : p = b
    · rw [eb, gp_c3_b h, gp_sw_a, gp_sw_n (Ne.symm h.2.2) (Ne.symm h.2.1)]
    · by_cases ec : p = c
      · rw [ec, gp_c3_c h, gp_sw_b, gp_sw_b]
      · rw [gp_c3_n ea eb ec, gp_sw_n eb ec, gp_sw_n ea eb]

theorem gp_full_two {H : gp_f → Prop} {D : List Nat} (hH : gp_sg H) (hf : gp_full H D) {a b c d : Nat} (ha : a ∈ D)
    (hb : b ∈ D) (hc : c ∈ D) (hd : d ∈ D) (hab : a ≠ b) (hcd : c ≠ d) : H (gp_sw a b ∘ gp_sw c d) := by
  have share : ∀ x y z, x ∈ D → y ∈ D → z ∈ D → gp_d3 x y z → H (gp_sw x y ∘ gp_sw y z) := by
    intro x y z hx hy hz h
    rw [gp_sw_share h]
    exact hf x y z hx hy hz h
  have hid : ∀ x y, H (gp_sw x y ∘ gp_sw x y) := by
    intro x y
    have : gp_sw x y ∘ gp_sw x y = id := gp_inv_eq (gp_sw_inv x y)
    rw [this]
    exact hH.1
  by_cases e1 : a = c
  · subst e1
    by_cases e2 : b = d
    · subst e2
      exact hid a b
    · rw [gp_sw_comm a b]
      exact share b a d hb ha hd ⟨Ne.symm hab, hcd, e2⟩
  · by_cases e2 : a = d
    · subst e2
      by_cases e3 : b = c
      · subst e3
        rw [gp_sw_comm b a]
        exact hid a b
      · rw [gp_sw_comm a b, gp_sw_comm c a]
        exact share b a c hb ha hc ⟨Ne.symm hab, e1, e3⟩
    · by_cases e3 : b = c
      · subst e3
        exact share a b d ha hb hd ⟨hab, hcd, e2⟩
      · by_cases e4 : b = d
        · subst e4
          rw [gp_sw_comm c b]
          exact share a b c ha hb hc ⟨hab, e3, e1⟩
        · have h1 := share a b c ha hb hc ⟨hab, e3, e1⟩
          have h2 := share b c d hb hc hd ⟨e3, hcd, e4⟩
          have h3 := hH.2.1 _ _ h1 h2
          have : (gp_sw a b ∘ gp_sw b c) ∘ gp_sw b c ∘ gp_sw c d = gp_sw a b ∘ gp_sw c d := by
            funext p
            show gp_sw a b (gp_sw b c (gp_sw b c (gp_sw c d p))) = gp_sw a b (gp_sw c d p)
            rw [gp_sw_self]
          rw [this] at h3
          exact h3

theorem gp_full_half {H : gp_f → Prop} {D : List Nat} (hH : gp_sg H) (hf : gp_full H D) : ∀ (E : List Nat),
    E.Nodup → (∀ x, x ∈ E → x ∈ D) → ∀ s, gp_sym E s →
      H s ∨ ∀ a b, a ∈ D → b ∈ D → a ≠ b → H (gp_sw a b ∘ s) := by
  intro E
  induction E with
  | nil =>
    intro _ _ s hs
    left
    have : s = id := by
      funext p
      exact hs.2 p (List.not_mem_nil)
    rw [this]
    exact hH.1
  | cons x E ih =>
    intro hn hE s hs
    have hn2 := List.nodup_cons.1 hn
    have hxD := hE x (List.mem_cons_self ..)
    have hsx : s x ∈ x :: E := gp_sym_mem hs (List.mem_cons_self ..)
    have h1 : gp_sym (x :: E) (gp_sw x (s x)) := gp_sw_sym (List.mem_cons_self ..) hsx
    have h2 := (gp_sym_sg (x :: E)).2.1 _ _ h1 hs
    have h3 : gp_sym E (gp_sw x (s x) ∘ s) := by
      refine ⟨h2.1, fun p hp => ?_⟩
      by_cases e : p = x
      · rw [e]
        exact gp_sw_b x (s x)
      · refine h2.2 p (fun h => ?_)
        rcases List.mem_cons.1 h with h | h
        · exact e h
        · exact hp h
    have hback : gp_sw x (s x) ∘ gp_sw x (s x) ∘ s = s := by
      funext p
      exact gp_sw_self x (s x) (s p)
    by_cases e : s x = x
    · have e2 : gp_sw x (s x) ∘ s = s := by
        funext p
        show gp_sw x (s x) (s p) = s p
        rw [e]
        by_cases e3 : s p = x
        · rw [e3, gp_sw_a]
        · rw [gp_sw_n e3 e3]
      rw [e2] at h3
      exact ih hn2.2 (fun y hy => hE y (List.mem_cons_of_mem _ hy)) s h3
    · rcases ih hn2.2 (fun y hy => hE y (List.mem_cons_of_mem _ hy)) _ h3 with h | h
      · right
        intro a b ha hb hab
        have h4 := hH.2.1 _ _ (gp_full_two hH hf ha hb hxD (hE _ hsx) hab (Ne.symm e)) h
        have : (gp_sw a b ∘ gp_sw x (s x)) ∘ gp_sw x (s x) ∘ s = gp_sw a b ∘ s := by
          funext p
          show gp_sw a b (gp_sw x (s x) (gp_sw x (s x) (s p))) = gp_sw a b (s p)
          rw [gp_sw_self]
        rw [this] at h4
        exact h4
      · left
        have h4 := h x (s x) hxD (hE _ hsx) (Ne.symm e)
        rw [hback] at h4
        exact h4

/-- what is larger than a full group is all -/
theorem gp_full_up {K H : gp_f → Prop} {D : List Nat} (hn : D.Nodup) (hK : gp_sg K) (hH : gp_sg H) (hf : gp_full K D)
    (hKH : gp_sub K H) (hHD : gp_sub H (gp_sym D)) {x : gp_f} (hx : H x) (hnx : ¬ K x) : ∀ s, gp_sym D s → H s := by
  intro s hs
  have hx2 := gp_full_half hK hf D hn (fun _ h => h) x (hHD x hx)
  rcases gp_full_half hK hf D hn (fun _ h => h) s hs with h | h
  · exact hKH s h
  · rcases hx2 with h' | h'
    · exact absurd h' hnx
    · -- some two places
      by_cases hp : ∃ a b, a ∈ D ∧ b ∈ D ∧ a ≠ b
      · obtain ⟨a, b, ha, hb, hab⟩ := hp
        obtain ⟨x', hx', hxi⟩ := hH.2.2 x hx
        have h1 := hH.2.1 _ _ (hKH _ (h' a b ha hb hab)) hx'
        have e1 : (gp_sw a b ∘ x) ∘ x' = gp_sw a b := by
          funext p
          show gp_sw a b (x (x' p)) = _
          rw [hxi.1]
        rw [e1] at h1
        have h2 := hH.2.1 _ _ h1 (hKH _ (h a b ha hb hab))
        have e2 : gp_sw a b ∘ gp_sw a b ∘ s = s := by
          funext p
          exact gp_sw_self a b (s p)
        rw [e2] at h2
        exact h2
      · have : s = id := by
          funext p
          by_cases hd : p ∈ D
          · by_cases e : s p = p
            · exact e
            · exact absurd ⟨s p, p, gp_sym_mem hs hd, hd, e⟩ hp
          · exact hs.2 p hd
        rw [this]
        exact hH.1

/-- a full group that isn't all has no exchange, and half of all -/
theorem gp_full_no {K : gp_f → Prop} {D : List Nat} (hn : D.Nodup) (hK : gp_sg K) (hf : gp_full K D)
    (hne : ¬ ∀ s, gp_sym D s → K s) {a b : Nat} (ha : a ∈ D) (hb : b ∈ D) (hab : a ≠ b) : ¬ K (gp_sw a b) := by
  intro hk
  apply hne
  intro s hs
  rcases gp_full_half hK hf D hn (fun _ h => h) s hs with h | h
  · exact h
  · have h2 := hK.2.1 _ _ hk (h a b ha hb hab)
    have e2 : gp_sw a b ∘ gp_sw a b ∘ s = s := by
      funext p
      exact gp_sw_self a b (s p)
    rw [e2] at h2
    exact h2

theorem gp_full_card {K : gp_f → Prop} {D : List Nat} {k : Nat} (hn : D.Nodup) (hK : gp_sg K) (hf : gp_full K D)
    (hs : gp_sub K (gp_sym D)) (hne : ¬ ∀ s, gp_sym D s → K s) {a b : Nat} (ha : a ∈ D) (hb : b ∈ D) (hab : a ≠ b)
    (hk : gp_card K k) : 2 * k = gp_fac D.length := by
  have hno := gp_full_no hn hK hf hne ha hb hab
  have hsw : gp_sym D (gp_sw a b) := gp_sw_sym ha hb
  have h1 : gp_card (fun s => gp_sym D s ∧ K s) k := gp_card_congr hk (fun s => ⟨fun h => ⟨hs s h, h⟩, fun h => h.2⟩)
  have h2 : gp_card (fun s => gp_sym D s ∧ ¬ K s) k := by
    refine gp_card_congr (gp_card_img hk (fun s => gp_sw a b ∘ s) ?_) (fun s => ?_)
    · intro x y _ _ e
      funext p
      have : gp_sw a b (x p) = gp_sw a b (y p) := congrFun e p
      exact gp_inv_inj (gp_sw_inv a b) this
    · constructor
      · rintro ⟨x, hx, rfl⟩
        refine ⟨(gp_sym_sg D).2.1 _ _ hsw (hs x hx), fun h => hno ?_⟩
        obtain ⟨x', hx', hxi⟩ := hK.2.2 x hx
        have h3 := hK.2.1 _ _ h hx'
        have e1 : (gp_sw a b ∘ x) ∘ x' = gp_sw a b := by
          funext p
          show gp_sw a b (x (x' p)) = _
          rw [hxi.1]
        rw [e1] at h3
        exact h3
      · rintro ⟨hsD, hsn⟩
        rcases gp_full_half hK hf D hn (fun _ h => h) s hsD with h | h
        · exact absurd h hsn
        · refine ⟨gp_sw a b ∘ s, h a b ha hb hab, ?_⟩
          funext p
          exact gp_sw_self a b (s p)
  have := gp_card_uniq (gp_card_add h1 h2) (gp_card_sym D hn)
  omega

/-- the first of the list that goes with a place -/
noncomputable def gp_rep (D : List Nat) (R : Nat → Nat → Prop) (x : Nat) : Nat :=
  (D.find? (fun y => @decide (R x y) (Classical.propDecidable _))).getD x

theorem gp_rep_in {D : List Nat} {R : Nat → Nat → Prop} (hr : ∀ x, R x x) {x : Nat} (hx : x ∈ D) :
    R x (gp_rep D R x) ∧ gp_rep D R x ∈ D := by
  unfold gp_rep
  cases h : D.find? (fun y => @decide (R x y) (Classical.propDecidable _)) with
  | none =>
    exfalso
    have := List.find?_eq_none.1 h x hx
    exact this (by simp [hr x])
  | some y =>
    have h1 := List.find?_some h
    have h2 := List.mem_of_find?_eq_some h
    simp at h1
    exact ⟨h1, h2⟩

theorem gp_rep_eq {D : List Nat} {R : Nat → Nat → Prop} (hr : ∀ x, R x x) (hsy : ∀ x y, R x y → R y x)
    (htr : ∀ x y z, R x y → R y z → R x z) {x y : Nat} (hx : x ∈ D) (hxy : R x y) :
    gp_rep D R x = gp_rep D R y := by
  have e : (fun z => @decide (R x z) (Classical.propDecidable _)) = (fun z => @decide (R y z) (Classical.propDecidable _)) := by
    funext z
    have : R x z ↔ R y z := ⟨fun h => htr _ _ _ (hsy _ _ hxy) h, fun h => htr _ _ _ hxy h⟩
    simp [this]
  unfold gp_rep
  rw [e]
  cases h : D.find? (fun z => @decide (R y z) (Classical.propDecidable _)) with
  | none =>
    exfalso
    have := List.find?_eq_none.1 h x hx
    exact this (by simp [hsy _ _ hxy])
  | some z => rfl

end
end
section
/-! The longest chain: groups that keep classes, numbers, and the end of the induction. Pure. -/
section

def gp_un : List (Nat × Nat) → List Nat
  | [] => []
  | x :: l => List.replicate x.2 x.1 ++ gp_un l

def gp_tab : List (List (Nat × Nat) × Nat × List (Nat × Nat) × Nat) :=
  [([], 2, [], 2),
   ([], 2, [], 2),
   ([], 2, [], 2),
   ([], 5, [(2, 1)], 2),
   ([(2, 2)], 5, [(2, 3)], 2),
   ([(2, 2), (5, 1)], 3, [(2, 3), (5, 1)], 2),
   ([(2, 3), (3, 1), (5, 1)], 3, [(2, 4), (3, 1), (5, 1)], 2),
   ([(2, 3), (3, 1), (5, 1), (7, 1)], 3, [(2, 4), (3, 1), (5, 1), (7, 1)], 2),
   ([(2, 6), (3, 1), (5, 1), (7, 1)], 3, [(2, 7), (3, 1), (5, 1), (7, 1)], 3),
   ([(2, 6), (3, 3), (5, 1), (7, 1)], 3, [(2, 7), (3, 3), (5, 1), (7, 1)], 3),
   ([(2, 7), (3, 3), (5, 2), (7, 1)], 3, [(2, 8), (3, 3), (5, 2), (7, 1)], 3),
   ([(2, 7), (3, 3), (5, 2), (7, 1), (11, 1)], 3, [(2, 8), (3, 3), (5, 2), (7, 1), (11, 1)], 3),
   ([(2, 9), (3, 4), (5, 2), (7, 1), (11, 1)], 5, [(2, 10), (3, 4), (5, 2), (7, 1), (11, 1)], 3),
   ([(2, 9), (3, 4), (5, 2), (7, 1), (11, 1), (13, 1)], 5, [(2, 10), (3, 4), (5, 2), (7, 1), (11, 1), (13, 1)], 3),
   ([(2, 10), (3, 4), (5, 2), (7, 2), (11, 1), (13, 1)], 5, [(2, 11), (3, 4), (5, 2), (7, 2), (11, 1), (13, 1)], 5),
   ([(2, 10), (3, 5), (5, 3), (7, 2), (11, 1), (13, 1)], 5, [(2, 11), (3, 5), (5, 3), (7, 2), (11, 1), (13, 1)], 3),
   ([(2, 14), (3, 5), (5, 3), (7, 2), (11, 1), (13, 1)], 5, [(2, 15), (3, 5), (5, 3), (7, 2), (11, 1), (13, 1)], 3),
   ([(2, 14), (3, 5), (5, 3), (7, 2), (11, 1), (13, 1), (17, 1)], 5, [(2, 15), (3, 5), (5, 3), (7, 2), (11, 1), (13, 1), (17, 1)], 3),
   ([(2, 15), (3, 7), (5, 3), (7, 2), (11, 1), (13, 1), (17, 1)], 5, [(2, 16), (3, 7), (5, 3), (7, 2), (11, 1), (13, 1), (17, 1)], 5),
   ([(2, 15), (3, 7), (5, 3), (7, 2), (11, 1), (13, 1), (17, 1), (19, 1)], 5, [(2, 16), (3, 7), (5, 3), (7, 2), (11, 1), (13, 1), (17, 1), (19, 1)], 3),
   ([(2, 17), (3, 7), (5, 4), (7, 2), (11, 1), (13, 1), (17, 1), (19, 1)], 5, [(2, 18), (3, 7), (5, 4), (7, 2), (11, 1), (13, 1), (17, 1), (19, 1)], 5),
   ([(2, 17), (3, 8), (5, 4), (7, 3), (11, 1), (13, 1), (17, 1), (19, 1)], 5, [(2, 18), (3, 8), (5, 4), (7, 3), (11, 1), (13, 1), (17, 1), (19, 1)], 5),
   ([(2, 18), (3, 8), (5, 4), (7, 3), (11, 2), (13, 1), (17, 1), (19, 1)], 7, [(2, 19), (3, 8), (5, 4), (7, 3), (11, 2), (13, 1), (17, 1), (19, 1)], 5),
   ([(2, 18), (3, 8), (5, 4), (7, 3), (11, 2), (13, 1), (17, 1), (19, 1), (23, 1)], 5, [(2, 19), (3, 8), (5, 4), (7, 3), (11, 2), (13, 1), (17, 1), (19, 1), (23, 1)], 5)]

def gp_psA (n : Nat) : List Nat := gp_un (gp_tab.getD n ([], 2, [], 2)).1
def gp_qA (n : Nat) : Nat := (gp_tab.getD n ([], 2, [], 2)).2.1
def gp_psS (n : Nat) : List Nat := gp_un (gp_tab.getD n ([], 2, [], 2)).2.2.1
def gp_qS (n : Nat) : Nat := (gp_tab.getD n ([], 2, [], 2)).2.2.2

def gp_prms : List Nat := [2, 3, 5, 7, 11, 13, 17, 19, 23]

theorem gp_prm_dec : ∀ p, p ∈ gp_prms → gp_prm p := by
  have h : ∀ p, p ∈ gp_prms → 2 ≤ p ∧ ∀ d, d < p + 1 → d ∣ p → d = 1 ∨ d = p := by decide +kernel
  intro p hp
  refine ⟨(h p hp).1, fun d hd => (h p hp).2 d ?_ hd⟩
  have := Nat.le_of_dvd (by have := (h p hp).1; omega) hd
  omega

theorem gp_tabA : ∀ n, n < 24 → 3 ≤ n → 6 * gp_prod (gp_psA n) = gp_fac n ∧ 0 < gp_qA n ∧ 2 ≤ gp_g n ∧
    gp_fac n * gp_qA n ^ gp_cl (gp_qA n) (gp_psA n) <
      gp_qA n ^ ((gp_g n - 2) + 1) * gp_pl (gp_qA n) (gp_psA n) * gp_fac ((n + 1) / 2) := by decide +kernel

theorem gp_tabS : ∀ n, n < 24 → 3 ≤ n → 3 * gp_prod (gp_psS n) = gp_fac n ∧ 0 < gp_qS n ∧
    gp_fac n * gp_qS n ^ gp_cl (gp_qS n) (gp_psS n) <
      gp_qS n ^ ((gp_g n - 1) + 1) * gp_pl (gp_qS n) (gp_psS n) * gp_fac ((n + 1) / 2) := by decide +kernel

theorem gp_tabP : ∀ n, n < 24 → (∀ p, p ∈ gp_psA n → p ∈ gp_prms) ∧ (∀ p, p ∈ gp_psS n → p ∈ gp_prms) := by decide +kernel

theorem gp_tab1 : ∀ n, n < 24 → 3 ≤ n → ∀ k, k < n → 0 < k → gp_g k + gp_g (n - k) + 1 ≤ gp_g n := by decide +kernel

theorem gp_tab2 : ∀ s, s < 24 → 3 ≤ s → ∀ r, r < 24 → 2 ≤ r → s * r < 24 → gp_g r + r * gp_g s + 1 ≤ gp_g (s * r) := by
  decide +kernel

theorem gp_tab3 : ∀ n, n < 24 → gp_g n ≤ n * 3 / 2 := by decide +kernel

/-- of a group with no three put round alone: how long its chains are -/
theorem gp_case1S {H : gp_f → Prop} {D : List Nat} {k : Nat} (hH : gp_sg H) (hs : gp_sub H (gp_sym D)) (hn : D.Nodup)
    (hl : 3 ≤ D.length) (hu : D.length < 24) (h3 : gp_no3 H) (hk : gp_lam k H) : k + 1 ≤ gp_g D.length := by
  obtain ⟨d, hd⟩ := gp_card_sub (gp_card_sym D hn) hs
  obtain ⟨t1, t2, t3⟩ := gp_tabS D.length hu hl
  obtain ⟨_, _, t4, _⟩ := gp_tabA D.length hu hl
  have h1 := gp_third hH hs hn hl h3 hd
  rw [← t1] at h1
  have h2 : d ∣ gp_prod (gp_psS D.length) := Nat.dvd_of_mul_dvd_mul_left (by omega) h1
  have := gp_num (fun p hp => gp_prm_dec p ((gp_tabP _ hu).2 p hp)) h2 (gp_lam_dv k H d hk hd)
    (gp_half_card hH hs hn h3 hd) t2 t3
  omega

theorem gp_case1A {H : gp_f → Prop} {D : List Nat} {k : Nat} (hH : gp_sg H) (hs : gp_sub H (gp_sym D)) (hn : D.Nodup)
    (hl : 3 ≤ D.length) (hu : D.length < 24) (h3 : gp_no3 H) (hk : gp_lam k H)
    (h2 : ∀ d, gp_card H d → 2 * d ∣ gp_fac D.length) : k + 2 ≤ gp_g D.length := by
  obtain ⟨d, hd⟩ := gp_card_sub (gp_card_sym D hn) hs
  obtain ⟨t1, t2, t4, t3⟩ := gp_tabA D.length hu hl
  have h1 := gp_third hH hs hn hl h3 hd
  have h5 := h2 d hd
  have h6 : 6 * d ∣ gp_fac D.length := by
    obtain ⟨x, hx⟩ := h1
    obtain ⟨y, hy⟩ := h5
    have hdp := gp_card_pos hH hd
    have e : d * (3 * x) = d * (2 * y) := by
      rw [hx] at hy
      calc d * (3 * x) = 3 * d * x := by rw [Nat.mul_left_comm, Nat.mul_assoc]
        _ = 2 * d * y := hy
        _ = d * (2 * y) := by rw [Nat.mul_left_comm, Nat.mul_assoc]
    have e2 := Nat.eq_of_mul_eq_mul_left hdp e
    have e3 : ∃ z, x = 2 * z := ⟨x / 2, by omega⟩
    obtain ⟨z, rfl⟩ := e3
    refine ⟨z, ?_⟩
    rw [hx]
    calc 3 * d * (2 * z) = 3 * d * 2 * z := by rw [Nat.mul_assoc (3 * d)]
      _ = 6 * d * z := by
        have : 3 * d * 2 = 6 * d := by omega
        rw [this]
  rw [← t1] at h6
  have h7 : d ∣ gp_prod (gp_psA D.length) := Nat.dvd_of_mul_dvd_mul_left (by omega) h6
  have := gp_num (fun p hp => gp_prm_dec p ((gp_tabP _ hu).1 p hp)) h7 (gp_lam_dv k H d hk hd)
    (gp_half_card hH hs hn h3 hd) t2 t3
  omega

/-- neither none nor all: it lies in a group of short chains that has an exchange -/
theorem gp_case3 {H : gp_f → Prop} {D : List Nat} (hH : gp_sg H) (hs : gp_sub H (gp_sym D)) (hn : D.Nodup)
    (hl : 3 ≤ D.length) (hu : D.length < 24) (h3 : ¬ gp_no3 H) (hf : ¬ gp_full H D)
    (ih : ∀ E : List Nat, E.Nodup → E.length < D.length → ∀ K, gp_sg K → gp_sub K (gp_sym E) → gp_bd K (gp_g E.length)) :
    ∃ St L, gp_sg St ∧ gp_sub St (gp_sym D) ∧ gp_sub H St ∧ (∃ a b, a ∈ D ∧ b ∈ D ∧ a ≠ b ∧ St (gp_sw a b)) ∧
      gp_bd St L ∧ L + 1 ≤ gp_g D.length := by
  have h3' : ∃ a b c, gp_d3 a b c ∧ H (gp_c3 a b c) := by
    by_cases h : ∃ a b c, gp_d3 a b c ∧ H (gp_c3 a b c)
    · exact h
    · exact absurd (fun a b c hd hc => h ⟨a, b, c, hd, hc⟩) h3
  obtain ⟨a, b, c, hd, hc⟩ := h3'
  obtain ⟨haD, hbD, hcD⟩ := gp_c3_in hs hd hc
  have rr : ∀ x, gp_R H x x := fun x => gp_R_refl x
  have rs : ∀ x y, gp_R H x y → gp_R H y x := fun x y h => gp_R_symm hH h
  have rt : ∀ x y z, gp_R H x y → gp_R H y z → gp_R H x z := fun x y z h h' => gp_R_trans hH h h'
  have hab : gp_R H a b := Or.inr ⟨c, hd, hc⟩
  have hac : gp_R H a c := by
    have h1 : gp_d3 c a b := ⟨Ne.symm hd.2.2, hd.1, Ne.symm hd.2.1⟩
    have h2 : H (gp_c3 c a b) := by
      rw [gp_c3_rot h1]; exact hc
    exact rs _ _ (Or.inr ⟨b, h1, h2⟩)
  have hDc : gp_card (fun x => x ∈ D) D.length := ⟨D, hn, rfl, fun _ => Iff.rfl⟩
  obtain ⟨s, hsc⟩ := gp_card_sub (S := fun y => y ∈ D ∧ gp_R H a y) hDc (fun _ h => h.1)
  by_cases hun : ∀ x, x ∈ D → gp_card (fun y => y ∈ D ∧ gp_R H x y) s
  · -- classes of one size
    have hs3 : 3 ≤ s := by
      have h1 : gp_card (fun y => y = a ∨ y = b ∨ y = c) 3 := by
        refine ⟨[a, b, c], ?_, rfl, fun x => by simp⟩
        simp [hd.1, hd.2.1, hd.2.2]
      refine gp_card_le h1 hsc ?_
      rintro x (rfl | rfl | rfl)
      · exact ⟨haD, rr _⟩
      · exact ⟨hbD, hab⟩
      · exact ⟨hcD, hac⟩
    have hnt : ∃ x y, x ∈ D ∧ y ∈ D ∧ ¬ gp_R H x y := by
      by_cases h : ∃ x y, x ∈ D ∧ y ∈ D ∧ ¬ gp_R H x y
      · exact h
      · exfalso
        apply hf
        refine gp_tot_full hH hs (fun x y hx hy => ?_)
        by_cases h' : gp_R H x y
        · exact h'
        · exact absurd ⟨x, y, hx, hy, h'⟩ h
    obtain ⟨u, v, huD, hvD, huv⟩ := hnt
    have hsn : s < D.length := gp_card_lt (hun u huD) hDc (fun _ h => h.1) v hvD (fun h => huv h.2)
    have r1 : ∀ x y, x ∈ D → y ∈ D → gp_R H x y → gp_rep D (gp_R H) x = gp_rep D (gp_R H) y :=
      fun x y hx _ h => gp_rep_eq rr rs rt hx h
    have r2 : ∀ x, x ∈ D → gp_R H x (gp_rep D (gp_R H) x) ∧ gp_rep D (gp_R H) x ∈ D := fun x hx => gp_rep_in rr hx
    have hT : ∀ x, x ∈ D.filter (fun x => decide (gp_rep D (gp_R H) x = x)) ↔ x ∈ D ∧ gp_rep D (gp_R H) x = x := by
      intro x
      rw [List.mem_filter, decide_eq_true_iff]
    have hTn : (D.filter (fun x => decide (gp_rep D (gp_R H) x = x))).Nodup := List.Nodup.sublist List.filter_sublist hn
    generalize hTe : D.filter (fun x => decide (gp_rep D (gp_R H) x = x)) = T at hT hTn
    have hfib : ∀ y, y ∈ T → gp_card (fun x => x ∈ D ∧ gp_rep D (gp_R H) x = y) s := by
      intro y hy
      have hy2 := (hT y).1 hy
      refine gp_card_congr (hun y hy2.1) (fun x => ?_)
      constructor
      · rintro ⟨h1, h2⟩
        exact ⟨h1, by rw [← r1 y x hy2.1 h1 h2]; exact hy2.2⟩
      · rintro ⟨h1, h2⟩
        refine ⟨h1, ?_⟩
        have := (r2 x h1).1
        rw [h2] at this
        exact rs _ _ this
    have hcnt : D.length = T.length * s := gp_fib (fun x => gp_rep D (gp_R H) x) T hTn (fun x => x ∈ D) D.length hDc
      (fun x hx => (hT _).2 ⟨(r2 x hx).2, (r1 _ _ hx (r2 x hx).2 (r2 x hx).1).symm⟩) hfib
    have hT2 : 2 ≤ T.length := by
      rcases Nat.lt_or_ge T.length 2 with h | h
      · exfalso
        have : T.length = 0 ∨ T.length = 1 := by omega
        rcases this with e | e
        · rw [e] at hcnt; omega
        · rw [e] at hcnt; omega
      · exact h
    have hTl : T.length < D.length := by
      rw [hcnt]
      calc T.length < T.length * 3 := by omega
        _ ≤ T.length * s := Nat.mul_le_mul_left _ hs3
    let St : gp_f → Prop := fun g => gp_sym D g ∧ ∀ x y, x ∈ D → y ∈ D → (gp_R H x y ↔ gp_R H (g x) (g y))
    have hSt : gp_sg St := by
      refine ⟨⟨(gp_sym_sg D).1, fun x y _ _ => Iff.rfl⟩, ?_, ?_⟩
      · rintro g k ⟨hg, hg2⟩ ⟨hk, hk2⟩
        refine ⟨(gp_sym_sg D).2.1 _ _ hg hk, fun x y hx hy => ?_⟩
        exact (hk2 x y hx hy).trans (hg2 _ _ (gp_sym_mem hk hx) (gp_sym_mem hk hy))
      · rintro g ⟨hg, hg2⟩
        obtain ⟨k, hk, hi⟩ := (gp_sym_sg D).2.2 g hg
        refine ⟨k, ⟨hk, fun x y hx hy => ?_⟩, hi⟩
        have := hg2 (k x) (k y) (gp_sym_mem hk hx) (gp_sym_mem hk hy)
        rw [hi.1, hi.1] at this
        exact this.symm
    have hbd : gp_bd St (gp_g T.length + T.length * gp_g s) := by
      refine gp_bd_blocks (D := D) (T := T) (R := gp_R H) (rep := gp_rep D (gp_R H)) hSt (fun g hg => hg.1)
        (fun g hg x y hx hy h => (hg.2 x y hx hy).1 h) r1 r2 hT (ih T hTn hTl) ?_
      intro y hy K hK hKs
      have hcl : (D.filter (fun x => decide (gp_rep D (gp_R H) x = y))).length = s := by
        refine gp_card_uniq (S := fun x => x ∈ D ∧ gp_rep D (gp_R H) x = y) ?_ (hfib y hy)
        exact ⟨_, List.Nodup.sublist List.filter_sublist hn, rfl, fun x => by rw [List.mem_filter, decide_eq_true_iff]⟩
      have := ih (D.filter (fun x => decide (gp_rep D (gp_R H) x = y))) (List.Nodup.sublist List.filter_sublist hn)
        (by rw [hcl]; exact hsn) K hK hKs
      rw [hcl] at this
      exact this
    refine ⟨St, _, hSt, fun g hg => hg.1, ?_, ⟨a, b, haD, hbD, hd.1, gp_sw_sym haD hbD, ?_⟩, hbd, ?_⟩
    · intro g hg
      refine ⟨hs g hg, fun x y hx hy => ⟨fun h => gp_R_map hH hg h, fun h => ?_⟩⟩
      obtain ⟨k, hk, hi⟩ := hH.2.2 g hg
      have := gp_R_map hH hk h
      rw [hi.2, hi.2] at this
      exact this
    · have hx : ∀ x, gp_R H x (gp_sw a b x) := by
        intro x
        by_cases e1 : x = a
        · rw [e1, gp_sw_a]; exact hab
        · by_cases e2 : x = b
          · rw [e2, gp_sw_b]; exact rs _ _ hab
          · rw [gp_sw_n e1 e2]; exact rr x
      intro x y _ _
      exact ⟨fun h => rt _ _ _ (rs _ _ (hx x)) (rt _ _ _ h (hx y)), fun h => rt _ _ _ (hx x) (rt _ _ _ h (rs _ _ (hx y)))⟩
    · have h24 : s * T.length < 24 := by rw [Nat.mul_comm, ← hcnt]; exact hu
      rw [hcnt, Nat.mul_comm T.length s]
      exact gp_tab2 s (by omega) hs3 T.length (by omega) hT2 h24
  · -- classes of several sizes
    have hx0 : ∃ x, x ∈ D ∧ ¬ gp_card (fun y => y ∈ D ∧ gp_R H x y) s := by
      by_cases h : ∃ x, x ∈ D ∧ ¬ gp_card (fun y => y ∈ D ∧ gp_R H x y) s
      · exact h
      · exfalso
        apply hun
        intro x hx
        by_cases h' : gp_card (fun y => y ∈ D ∧ gp_R H x y) s
        · exact h'
        · exact absurd ⟨x, hx, h'⟩ h
    obtain ⟨x0, hx0D, hx0n⟩ := hx0
    let p : Nat → Prop := fun x => gp_card (fun y => y ∈ D ∧ gp_R H x y) s
    have hpa : p a := hsc
    have hpR : ∀ x y, gp_R H x y → p x → p y := by
      intro x y hxy hx
      exact gp_card_congr hx (fun z => ⟨fun h => ⟨h.1, rt _ _ _ (rs _ _ hxy) h.2⟩, fun h => ⟨h.1, rt _ _ _ hxy h.2⟩⟩)
    have hpb : p b := hpR a b hab hpa
    have hpm : ∀ g, H g → ∀ x, p x → p (g x) := by
      intro g hg x hx
      obtain ⟨k, hk, hi⟩ := hH.2.2 g hg
      refine gp_card_congr (gp_card_img hx g (fun y z _ _ e => gp_inv_inj hi e)) (fun y => ?_)
      constructor
      · rintro ⟨z, ⟨hz, hzR⟩, rfl⟩
        exact ⟨gp_sym_mem (hs g hg) hz, gp_R_map hH hg hzR⟩
      · rintro ⟨hy, hyR⟩
        refine ⟨k y, ⟨gp_sym_mem (hs k hk) hy, ?_⟩, hi.1 y⟩
        have := gp_R_map hH hk hyR
        rw [hi.2] at this
        exact this
    let St : gp_f → Prop := fun g => gp_sym D g ∧ ∀ x, p x ↔ p (g x)
    have hSt : gp_sg St := by
      refine ⟨⟨(gp_sym_sg D).1, fun x => Iff.rfl⟩, ?_, ?_⟩
      · rintro g k ⟨hg, hg2⟩ ⟨hk, hk2⟩
        exact ⟨(gp_sym_sg D).2.1 _ _ hg hk, fun x => (hk2 x).trans (hg2 _)⟩
      · rintro g ⟨hg, hg2⟩
        obtain ⟨k, hk, hi⟩ := (gp_sym_sg D).2.2 g hg
        refine ⟨k, ⟨hk, fun x => ?_⟩, hi⟩
        have := hg2 (k x)
        rw [hi.1] at this
        exact this.symm
    obtain ⟨n1, c1⟩ := gp_card_sub (S := fun x => x ∈ D ∧ p x) hDc (fun _ h => h.1)
    obtain ⟨n2, c2⟩ := gp_card_sub (S := fun x => x ∈ D ∧ ¬ p x) hDc (fun _ h => h.1)
    have hsum := gp_card_uniq (gp_card_add c1 c2) hDc
    obtain ⟨D1, d1n, d1l, d1m⟩ := c1
    obtain ⟨D2, d2n, d2l, d2m⟩ := c2
    have hn1 : 0 < n1 := by
      rw [← d1l]
      exact List.length_pos_of_mem ((d1m a).2 ⟨haD, hpa⟩)
    have hn2 : 0 < n2 := by
      rw [← d2l]
      exact List.length_pos_of_mem ((d2m x0).2 ⟨hx0D, hx0n⟩)
    have hbd : gp_bd St (gp_g n1 + gp_g n2) := by
      refine gp_bd_split (D := D) (D1 := D1) (D2 := D2) (p := p) hSt (fun g hg => hg.1) (fun g hg x hx => (hg.2 x).1 hx)
        (fun x hx hp => (d1m x).2 ⟨hx, hp⟩) (fun x hx hp => (d2m x).2 ⟨hx, hp⟩) ?_ ?_
      · intro K hK hKs
        have := ih D1 d1n (by rw [d1l]; omega) K hK hKs
        rw [d1l] at this
        exact this
      · intro K hK hKs
        have := ih D2 d2n (by rw [d2l]; omega) K hK hKs
        rw [d2l] at this
        exact this
    refine ⟨St, _, hSt, fun g hg => hg.1, ?_, ⟨a, b, haD, hbD, hd.1, gp_sw_sym haD hbD, fun x => ?_⟩, hbd, ?_⟩
    · intro g hg
      refine ⟨hs g hg, fun x => ⟨hpm g hg x, fun h => ?_⟩⟩
      obtain ⟨k, hk, hi⟩ := hH.2.2 g hg
      have := hpm k hk _ h
      rw [hi.2] at this
      exact this
    · by_cases e1 : x = a
      · rw [e1, gp_sw_a]; exact ⟨fun _ => hpb, fun _ => hpa⟩
      · by_cases e2 : x = b
        · rw [e2, gp_sw_b]; exact ⟨fun _ => hpa, fun _ => hpb⟩
        · rw [gp_sw_n e1 e2]
    · have := gp_tab1 D.length hu hl n1 (by omega) hn1
      have e : D.length - n1 = n2 := by omega
      rw [e] at this
      exact this

theorem gp_small {D : List Nat} {H : gp_f → Prop} {k : Nat} (hn : D.Nodup) (hl : D.length < 3) (hs : gp_sub H (gp_sym D))
    (hk : gp_lam k H) : k ≤ gp_g D.length := by
  obtain ⟨d, hd⟩ := gp_card_sub (gp_card_sym D hn) hs
  have h1 := gp_lag (gp_lam_sg hk) (gp_sym_sg D) hs hd (gp_card_sym D hn)
  have h2 := gp_lam_dv k H d hk hd
  have h4 : ∀ p, p ∈ ([2] : List Nat) → gp_prm p := by
    intro p hp
    exact gp_prm_dec p (by simp at hp; rw [hp]; decide)
  have hcase : D.length = 0 ∨ D.length = 1 ∨ D.length = 2 := by omega
  rcases hcase with e | e | e
  · rw [e] at h1 ⊢
    have : d = 1 := Nat.dvd_one.1 h1
    exact gp_dv_list k d [] (fun p hp => absurd hp (List.not_mem_nil)) this.symm h2
  · rw [e] at h1 ⊢
    have : d = 1 := Nat.dvd_one.1 h1
    exact gp_dv_list k d [] (fun p hp => absurd hp (List.not_mem_nil)) this.symm h2
  · rw [e] at h1 ⊢
    obtain ⟨qs, q1, q2⟩ := gp_div_list [2] h4 d h1
    have := gp_dv_list k d qs (fun p hp => h4 p (q1.subset hp)) q2 h2
    have h5 := q1.length_le
    have h6 : gp_g 2 = 1 := rfl
    simp at h5
    omega

theorem gp_main : ∀ (n : Nat) (D : List Nat), D.length = n → n < 24 → D.Nodup → ∀ H, gp_sg H → gp_sub H (gp_sym D) →
    gp_bd H (gp_g n) := by
  intro n
  induction n using Nat.strongRecOn with
  | _ n ihn =>
    intro D hDl hu hn H hH hs k hk
    subst hDl
    by_cases hl : 3 ≤ D.length
    · have ih : ∀ E : List Nat, E.Nodup → E.length < D.length → ∀ K, gp_sg K → gp_sub K (gp_sym E) →
          gp_bd K (gp_g E.length) := fun E hE hlt K hK hKs => ihn E.length hlt E rfl (by omega) hE K hK hKs
      -- a group that isn't full
      have nf : ∀ (K : gp_f → Prop) (j : Nat), gp_sub K (gp_sym D) → gp_lam j K → ¬ gp_full K D → j + 1 ≤ gp_g D.length := by
        intro K j hKs hj hnf
        have hK := gp_lam_sg hj
        by_cases h3 : gp_no3 K
        · exact gp_case1S hK hKs hn hl hu h3 hj
        · obtain ⟨St, L, hSt, _, hKSt, _, hb, hL⟩ := gp_case3 hK hKs hn hl hu h3 hnf ih
          have := hb j (gp_lam_mono hj hKSt hSt)
          omega
      by_cases hfH : gp_full H D
      · cases k with
        | zero => exact Nat.zero_le _
        | succ j =>
          obtain ⟨_, K, hj, hKH, x, hx, hnx⟩ := hk
          have hKs : gp_sub K (gp_sym D) := fun g hg => hs g (hKH g hg)
          by_cases hfK : gp_full K D
          · have hK := gp_lam_sg hj
            have hne : ¬ ∀ s, gp_sym D s → K s := fun h => hnx (h x (hs x hx))
            have h2 : 2 ≤ gp_g D.length := (gp_tabA D.length hu hl).2.2.1
            cases j with
            | zero => omega
            | succ i =>
              obtain ⟨_, K', hi, hKK, y, hy, hny⟩ := hj
              have hK' := gp_lam_sg hi
              have hK's : gp_sub K' (gp_sym D) := fun g hg => hKs g (hKK g hg)
              have hnf : ¬ gp_full K' D := by
                intro hf'
                apply hne
                exact gp_full_up hn hK' hK hf' hKK hKs hy hny
              by_cases h3 : gp_no3 K'
              · have : i + 2 ≤ gp_g D.length := gp_case1A hK' hK's hn hl hu h3 hi (by
                  intro d hd
                  obtain ⟨m, hm⟩ := gp_card_sub (gp_card_sym D hn) hKs
                  have h5 := gp_lag hK' hK hKK hd hm
                  have hab : ∃ a b, a ∈ D ∧ b ∈ D ∧ a ≠ b := by
                    match D, hn, hl with
                    | a :: b :: D', hn, _ =>
                      simp only [List.nodup_cons, List.mem_cons, not_or] at hn
                      exact ⟨a, b, by simp, by simp, hn.1.1⟩
                  obtain ⟨a, b, ha, hb, hab⟩ := hab
                  rw [← gp_full_card hn hK hfK hKs hne ha hb hab hm]
                  exact Nat.mul_dvd_mul_left 2 h5)
                omega
              · obtain ⟨St, L, hSt, _, hKSt, ⟨a, b, ha, hb, hab, hsw⟩, hbd, hL⟩ := gp_case3 hK' hK's hn hl hu h3 hnf ih
                have := gp_bd_lt hbd hi ⟨hKSt, gp_sw a b, hsw, fun h => gp_full_no hn hK hfK hne ha hb hab (hKK _ h)⟩ hSt
                omega
          · have := nf K j hKs hj hfK
            omega
      · have := nf H k hs hk hfH
        omega
    · exact gp_small hn (by omega) hs hk

/-- the longest chain of groups on a set of at most 23 places -/
theorem gp_chain {D : List Nat} (hn : D.Nodup) (hu : D.length < 24) {H : gp_f → Prop} {k : Nat}
    (hs : gp_sub H (gp_sym D)) (hk : gp_lam k H) : k ≤ D.length * 3 / 2 :=
  Nat.le_trans (gp_main D.length D rfl hu hn H (gp_lam_sg hk) hs k hk) (gp_tab3 _ hu)

end
end
section
/-! What comes of some maps one behind the other; one link of the chain; the lemma of Schreier. Pure. -/
section

def gp_w (l : List gp_f) : gp_f := l.foldr (fun a b => a ∘ b) id

def gp_gen (T : gp_f → Prop) (h : gp_f) : Prop := ∃ l : List gp_f, (∀ x, x ∈ l → T x) ∧ gp_w l = h

theorem gp_gen_id {T : gp_f → Prop} : gp_gen T id := ⟨[], fun x hx => absurd hx (List.not_mem_nil), rfl⟩

theorem gp_gen_mem {T : gp_f → Prop} {t : gp_f} (h : T t) : gp_gen T t :=
  ⟨[t], fun x hx => by rw [List.mem_singleton.1 hx]; exact h, rfl⟩

theorem gp_w_append (l l' : List gp_f) : gp_w (l ++ l') = gp_w l ∘ gp_w l' := by
  induction l with
  | nil => rfl
  | cons a l ih =>
    show a ∘ gp_w (l ++ l') = (a ∘ gp_w l) ∘ gp_w l'
    rw [ih]
    rfl

theorem gp_gen_comp {T : gp_f → Prop} {a b : gp_f} (ha : gp_gen T a) (hb : gp_gen T b) : gp_gen T (a ∘ b) := by
  obtain ⟨l, h1, rfl⟩ := ha
  obtain ⟨l', h2, rfl⟩ := hb
  refine ⟨l ++ l', fun x hx => ?_, gp_w_append l l'⟩
  rcases List.mem_append.1 hx with h | h
  · exact h1 x h
  · exact h2 x h

/-- it is the least that holds id and goes on along each -/
theorem gp_gen_min {T M : gp_f → Prop} (h0 : M id) (hs : ∀ t h, T t → M h → M (t ∘ h)) : ∀ h, gp_gen T h → M h := by
  rintro h ⟨l, hl, rfl⟩
  induction l with
  | nil => exact h0
  | cons a l ih =>
    exact hs a (gp_w l) (hl a (List.mem_cons_self ..)) (ih (fun x hx => hl x (List.mem_cons_of_mem _ hx)))

theorem gp_gen_sub {T T' : gp_f → Prop} (h : ∀ t, T t → gp_gen T' t) : gp_sub (gp_gen T) (gp_gen T') :=
  gp_gen_min gp_gen_id (fun _ _ ht hh => gp_gen_comp (h _ ht) hh)

theorem gp_gen_mono {T T' : gp_f → Prop} (h : ∀ t, T t → T' t) : gp_sub (gp_gen T) (gp_gen T') :=
  gp_gen_sub (fun t ht => gp_gen_mem (h t ht))

theorem gp_gen_in {T M : gp_f → Prop} (hM : gp_sg M) (h : ∀ t, T t → M t) : gp_sub (gp_gen T) M :=
  gp_gen_min hM.1 (fun t _ ht hh => hM.2.1 t _ (h t ht) hh)

theorem gp_gen_sg {T : gp_f → Prop} {D : List Nat} (hn : D.Nodup) (hT : ∀ t, T t → gp_sym D t) : gp_sg (gp_gen T) := by
  refine ⟨gp_gen_id, fun a b => gp_gen_comp, fun h hh => ?_⟩
  have hs : gp_sub (gp_gen T) (gp_sym D) := gp_gen_in (gp_sym_sg D) hT
  obtain ⟨h', hi⟩ := (hs h hh).1
  obtain ⟨k, hk⟩ := gp_card_sub (gp_card_sym D hn) hs
  have himg := gp_card_img hk (fun x => h ∘ x) (by
    intro x y _ _ e
    funext p
    exact gp_inv_inj hi (congrFun e p))
  have : ∃ x, gp_gen T x ∧ h ∘ x = id := by
    by_cases hc : ∃ x, gp_gen T x ∧ h ∘ x = id
    · exact hc
    · exfalso
      have := gp_card_lt himg hk (by rintro _ ⟨x, hx, rfl⟩; exact gp_gen_comp hh hx) id gp_gen_id hc
      omega
  obtain ⟨x, hx, e⟩ := this
  refine ⟨x, hx, fun p => congrFun e p, fun p => ?_⟩
  have h1 : h (x (h p)) = h p := congrFun e (h p)
  exact gp_inv_inj hi h1

/-- one link: rows that generate, places of the spread, a way back from each -/
def lk_ok (i : Nat) (D : List Nat) (gs : List gp_f) (sn : Nat) (sp : Nat → Nat) (wb : Nat → gp_f) : Prop :=
  (∀ g, g ∈ gs → gp_sym D g) ∧ 0 < sn ∧ sp 0 = i ∧ wb 0 = id ∧
  (∀ s, s < sn → gp_gen (fun g => g ∈ gs) (wb s) ∧ wb s (sp s) = i) ∧
  (∀ s t, s < sn → t < sn → sp s = sp t → s = t)

/-- the pairs that were looked at: what they give is of the part below -/
def lk_pairs (gs : List gp_f) (pr : Nat → Nat) (sn : Nat) (sp : Nat → Nat) (wb : Nat → gp_f) (K : gp_f → Prop) : Prop :=
  ∀ k g, gs[k]? = some g → ∀ s, s < pr k → ∃ t, t < sn ∧ sp t = g (sp s) ∧ ∃ u, K u ∧ u ∘ wb s = wb t ∘ g

theorem lk_schreier {i : Nat} {D : List Nat} {gs : List gp_f} {sn : Nat} {sp : Nat → Nat} {wb : Nat → gp_f}
    {pr : Nat → Nat} {K : gp_f → Prop} (h : lk_ok i D gs sn sp wb) (hp : lk_pairs gs pr sn sp wb K)
    (hd : ∀ k g, gs[k]? = some g → sn ≤ pr k) (hK : gp_sg K) :
    ∀ x, gp_gen (fun g => g ∈ gs) x → ∃ t, t < sn ∧ sp t = x i ∧ K (wb t ∘ x) := by
  obtain ⟨_, h1, h2, h3, _, _⟩ := h
  refine gp_gen_min ⟨0, h1, h2, ?_⟩ ?_
  · rw [h3]; exact hK.1
  · rintro g x hg ⟨s, hs, e, hx⟩
    obtain ⟨k, hk⟩ := List.getElem?_of_mem hg
    obtain ⟨t, ht, e2, u, hu, e3⟩ := hp k g hk s (Nat.lt_of_lt_of_le hs (hd k g hk))
    refine ⟨t, ht, ?_, ?_⟩
    · rw [e2, e]; rfl
    · have : wb t ∘ g ∘ x = u ∘ (wb s ∘ x) := by
        funext p
        have := congrFun e3 (x p)
        exact this.symm
      rw [this]
      exact hK.2.1 _ _ hu hx

/-- with all pairs done, the part below is the part that leaves the place -/
theorem lk_stab {i : Nat} {D : List Nat} {gs gs' : List gp_f} {sn : Nat} {sp : Nat → Nat} {wb : Nat → gp_f}
    {pr : Nat → Nat} (h : lk_ok i D gs sn sp wb) (hp : lk_pairs gs pr sn sp wb (gp_gen (fun g => g ∈ gs')))
    (hd : ∀ k g, gs[k]? = some g → sn ≤ pr k) (hK : gp_sg (gp_gen (fun g => g ∈ gs')))
    (hin : ∀ g, g ∈ gs' → gp_gen (fun g => g ∈ gs) g ∧ g i = i) :
    ∀ x, gp_gen (fun g => g ∈ gs') x ↔ gp_gen (fun g => g ∈ gs) x ∧ x i = i := by
  intro x
  constructor
  · intro hx
    refine ⟨gp_gen_sub (fun g hg => (hin g hg).1) x hx, ?_⟩
    refine gp_gen_min (M := fun x => x i = i) rfl ?_ x hx
    intro t y ht hy
    show t (y i) = i
    rw [hy, (hin t ht).2]
  · rintro ⟨hx, hxi⟩
    obtain ⟨t, ht, e, hk⟩ := lk_schreier h hp hd hK x hx
    have : t = 0 := h.2.2.2.2.2 t 0 ht h.2.1 (by rw [e, hxi, h.2.2.1])
    rw [this, h.2.2.2.1] at hk
    exact hk

/-- the spread is where the link's group puts the link's place -/
theorem lk_spread {i : Nat} {D : List Nat} {gs : List gp_f} {sn : Nat} {sp : Nat → Nat} {wb : Nat → gp_f}
    {pr : Nat → Nat} {K : gp_f → Prop} (hn : D.Nodup) (h : lk_ok i D gs sn sp wb) (hp : lk_pairs gs pr sn sp wb K)
    (hd : ∀ k g, gs[k]? = some g → sn ≤ pr k) (hK : gp_sg K) :
    ∀ q, (∃ s, s < sn ∧ sp s = q) ↔ ∃ x, gp_gen (fun g => g ∈ gs) x ∧ x i = q := by
  intro q
  constructor
  · rintro ⟨s, hs, rfl⟩
    obtain ⟨h1, h2⟩ := h.2.2.2.2.1 s hs
    obtain ⟨y, hy, hi⟩ := (gp_gen_sg hn h.1).2.2 _ h1
    refine ⟨y, hy, ?_⟩
    have := hi.2 (sp s)
    rw [h2] at this
    exact this
  · rintro ⟨x, hx, rfl⟩
    obtain ⟨t, ht, e, _⟩ := lk_schreier h hp hd hK x hx
    exact ⟨t, ht, e⟩

end
end
section
/-! The whole chain: links 0 .. n - 1; sifting; what level and spread are. Pure. -/
section

def ch_D (n i : Nat) : List Nat := List.range' i (n - i)

theorem ch_D_nodup (n i : Nat) : (ch_D n i).Nodup := List.nodup_range' (step := 1)

theorem ch_D_mem {n i p : Nat} : p ∈ ch_D n i ↔ i ≤ p ∧ p < n := by
  unfold ch_D
  rw [List.mem_range'_1]
  omega

theorem ch_D_len (n i : Nat) : (ch_D n i).length = n - i := by
  unfold ch_D
  rw [List.length_range']

def ch_G (gs : List gp_f) : gp_f → Prop := gp_gen (fun g => g ∈ gs)

/-- the links: each as a link is, its pairs looked at are of the link below, the rows below are of it -/
def ch_ok (n : Nat) (gs : Nat → List gp_f) (pr : Nat → Nat → Nat) (sn : Nat → Nat) (sp : Nat → Nat → Nat)
    (wb : Nat → Nat → gp_f) : Prop :=
  gs n = [] ∧ ∀ i, i < n → lk_ok i (ch_D n i) (gs i) (sn i) (sp i) (wb i) ∧
    lk_pairs (gs i) (pr i) (sn i) (sp i) (wb i) (ch_G (gs (i + 1))) ∧
    (∀ g, g ∈ gs (i + 1) → ch_G (gs i) g) ∧ (∀ k g, (gs i)[k]? = some g → pr i k ≤ sn i)

/-- all pairs of a link are done -/
def ch_done (gs : Nat → List gp_f) (pr : Nat → Nat → Nat) (sn : Nat → Nat) (i : Nat) : Prop :=
  ∀ k g, (gs i)[k]? = some g → sn i ≤ pr i k

section
variable {n : Nat} {gs : Nat → List gp_f} {pr : Nat → Nat → Nat} {sn : Nat → Nat} {sp : Nat → Nat → Nat}
  {wb : Nat → Nat → gp_f}

theorem ch_sym (h : ch_ok n gs pr sn sp wb) {i : Nat} (hi : i ≤ n) : ∀ g, g ∈ gs i → gp_sym (ch_D n i) g := by
  intro g hg
  rcases Nat.lt_or_eq_of_le hi with h1 | h1
  · exact (h.2 i h1).1.1 g hg
  · rw [h1, h.1] at hg
    exact absurd hg (List.not_mem_nil)

theorem ch_sg (h : ch_ok n gs pr sn sp wb) {i : Nat} (hi : i ≤ n) : gp_sg (ch_G (gs i)) :=
  gp_gen_sg (ch_D_nodup n i) (ch_sym h hi)

theorem ch_in_sym (h : ch_ok n gs pr sn sp wb) {i : Nat} (hi : i ≤ n) : gp_sub (ch_G (gs i)) (gp_sym (ch_D n i)) :=
  gp_gen_in (gp_sym_sg _) (ch_sym h hi)

theorem ch_fix (h : ch_ok n gs pr sn sp wb) {i : Nat} (hi : i ≤ n) {x : gp_f} (hx : ch_G (gs i) x) {j : Nat} (hj : j < i) :
    x j = j := (ch_in_sym h hi x hx).2 j (fun hm => by have := ch_D_mem.1 hm; omega)

theorem ch_stab (h : ch_ok n gs pr sn sp wb) {i : Nat} (hi : i < n) (hd : ch_done gs pr sn i) :
    ∀ x, ch_G (gs (i + 1)) x ↔ ch_G (gs i) x ∧ x i = i := by
  have hl := h.2 i hi
  refine lk_stab hl.1 hl.2.1 hd (ch_sg h hi) (fun g hg => ⟨hl.2.2.1 g hg, ?_⟩)
  exact (ch_sym h hi g hg).2 i (fun hm => by have := ch_D_mem.1 hm; omega)

/-- from link b on all is done: link i is the part of link b that leaves b .. i - 1 -/
theorem ch_part (h : ch_ok n gs pr sn sp wb) {b : Nat} (hd : ∀ i, b ≤ i → i < n → ch_done gs pr sn i) :
    ∀ i, b ≤ i → i ≤ n → ∀ x, ch_G (gs i) x ↔ ch_G (gs b) x ∧ ∀ j, b ≤ j → j < i → x j = j := by
  intro i
  induction i with
  | zero =>
    intro hb _ x
    have : b = 0 := by omega
    subst this
    exact ⟨fun hx => ⟨hx, fun j _ hj => absurd hj (Nat.not_lt_zero _)⟩, fun hx => hx.1⟩
  | succ i ih =>
    intro hb hi x
    rcases Nat.lt_or_eq_of_le hb with h1 | h1
    · rw [ch_stab h (by omega) (hd i (by omega) (by omega)) x, ih (by omega) (by omega) x]
      constructor
      · rintro ⟨⟨h2, h3⟩, h4⟩
        refine ⟨h2, fun j hj1 hj2 => ?_⟩
        rcases Nat.lt_or_eq_of_le (Nat.le_of_lt_succ hj2) with h5 | h5
        · exact h3 j hj1 h5
        · rw [h5]; exact h4
      · rintro ⟨h2, h3⟩
        exact ⟨⟨h2, fun j hj1 hj2 => h3 j hj1 (by omega)⟩, h3 i (by omega) (by omega)⟩
    · subst h1
      exact ⟨fun hx => ⟨hx, fun j hj1 hj2 => by omega⟩, fun hx => hx.1⟩

/-- where the link's part puts the link's place -/
theorem ch_spread (h : ch_ok n gs pr sn sp wb) {i : Nat} (hi : i < n) (hd : ch_done gs pr sn i) :
    ∀ q, (∃ s, s < sn i ∧ sp i s = q) ↔ ∃ x, ch_G (gs i) x ∧ x i = q := by
  have hl := h.2 i hi
  exact lk_spread (ch_D_nodup n i) hl.1 hl.2.1 hd (ch_sg h hi)

/-- one more way back: still behind it something of link b -/
theorem ch_undo (h : ch_ok n gs pr sn sp wb) {b i t : Nat} (hb : b ≤ i) (hi : i < n) (ht : t < sn i) {u : gp_f}
    (hu : ch_G (gs b) u) : ch_G (gs b) (wb i t ∘ u) := by
  have hl := (h.2 i hi).1.2.2.2.2.1 t ht
  have hsub : ∀ k, b + k ≤ n → gp_sub (ch_G (gs (b + k))) (ch_G (gs b)) := by
    intro k
    induction k with
    | zero => intro _ x hx; exact hx
    | succ k ih =>
      intro hk x hx
      exact ih (by omega) x (gp_gen_sub (h.2 (b + k) (by omega)).2.2.1 x hx)
  obtain ⟨k, rfl⟩ : ∃ k, i = b + k := ⟨i - b, by omega⟩
  exact gp_gen_comp (hsub k (by omega) _ hl.1) hu

/-- a row that leaves the chain at i, behind u: nothing of link b goes with it further -/
theorem ch_fails (h : ch_ok n gs pr sn sp wb) {b : Nat} (hd : ∀ i, b ≤ i → i < n → ch_done gs pr sn i) {i : Nat} (hb : b ≤ i)
    (hi : i < n) {u σ : gp_f} (hu : ch_G (gs b) u) (hf : ∀ j, b ≤ j → j < i → u (σ j) = j)
    (hn : ¬ ∃ s, s < sn i ∧ sp i s = u (σ i)) : ¬ ∃ x, ch_G (gs b) x ∧ ∀ j, b ≤ j → j ≤ i → x j = σ j := by
  rintro ⟨x, hx, he⟩
  apply hn
  rw [ch_spread h hi (hd i hb hi)]
  refine ⟨u ∘ x, ?_, ?_⟩
  · rw [ch_part h hd i hb (Nat.le_of_lt hi)]
    refine ⟨gp_gen_comp hu hx, fun j hj1 hj2 => ?_⟩
    show u (x j) = j
    rw [he j hj1 (by omega), hf j hj1 hj2]
  · show u (x i) = u (σ i)
    rw [he i hb (Nat.le_refl i)]

/-- and something of link b goes with it that far -/
theorem ch_goes (h : ch_ok n gs pr sn sp wb) {b i : Nat} (hb : b ≤ n) {u σ : gp_f} (hu : ch_G (gs b) u)
    (hf : ∀ j, b ≤ j → j < i → u (σ j) = j) : ∃ x, ch_G (gs b) x ∧ ∀ j, b ≤ j → j < i → x j = σ j := by
  obtain ⟨x, hx, hi⟩ := (ch_sg h hb).2.2 u hu
  refine ⟨x, hx, fun j hj1 hj2 => ?_⟩
  have := hi.2 (σ j)
  rw [hf j hj1 hj2] at this
  exact this

end

/-- the level of a row: how far something of the group goes with it -/
def ch_lv (G : gp_f → Prop) (n : Nat) (σ : gp_f) (L : Nat) : Prop :=
  L ≤ n ∧ (∃ x, G x ∧ ∀ j, j < L → x j = σ j) ∧ (L < n → ¬ ∃ x, G x ∧ ∀ j, j ≤ L → x j = σ j)

theorem ch_lv_uniq {G : gp_f → Prop} {n : Nat} {σ : gp_f} {L M : Nat} (h1 : ch_lv G n σ L) (h2 : ch_lv G n σ M) : L = M := by
  rcases Nat.lt_trichotomy L M with h | h | h
  · exfalso
    obtain ⟨x, hx, he⟩ := h2.2.1
    exact h1.2.2 (by have := h2.1; omega) ⟨x, hx, fun j hj => he j (by omega)⟩
  · exact h
  · exfalso
    obtain ⟨x, hx, he⟩ := h1.2.1
    exact h2.2.2 (by have := h1.1; omega) ⟨x, hx, fun j hj => he j (by omega)⟩

/-- how many places the spread of i has -/
def ch_sz (G : gp_f → Prop) (i : Nat) (k : Nat) : Prop :=
  gp_card (fun q => ∃ x, G x ∧ (∀ j, j < i → x j = j) ∧ x i = q) k

section
variable {n : Nat} {gs : Nat → List gp_f} {pr : Nat → Nat → Nat} {sn : Nat → Nat} {sp : Nat → Nat → Nat}
  {wb : Nat → Nat → gp_f}

theorem ch_size (h : ch_ok n gs pr sn sp wb) (hd : ∀ i, i < n → ch_done gs pr sn i) {i : Nat} (hi : i < n) :
    ch_sz (ch_G (gs 0)) i (sn i) := by
  have hl := (h.2 i hi).1
  refine ⟨(List.range (sn i)).map (sp i), ?_, ?_, fun q => ?_⟩
  · refine gp_nodup_map List.nodup_range (fun s t hs ht e => ?_)
    exact hl.2.2.2.2.2 s t (List.mem_range.1 hs) (List.mem_range.1 ht) e
  · rw [List.length_map, List.length_range]
  · rw [List.mem_map]
    have h1 := ch_spread h hi (hd i hi) q
    have h2 := ch_part h (b := 0) (fun j _ hj => hd j hj) i (Nat.zero_le i) (Nat.le_of_lt hi)
    constructor
    · rintro ⟨s, hs, e⟩
      obtain ⟨x, hx, hxi⟩ := h1.1 ⟨s, List.mem_range.1 hs, e⟩
      obtain ⟨h3, h4⟩ := (h2 x).1 hx
      exact ⟨x, h3, fun j hj => h4 j (Nat.zero_le j) hj, hxi⟩
    · rintro ⟨x, hx, h3, h4⟩
      obtain ⟨s, hs, e⟩ := h1.2 ⟨x, (h2 x).2 ⟨hx, fun j _ hj => h3 j hj⟩, h4⟩
      exact ⟨s, List.mem_range.2 hs, e⟩

end

end
end
section
/-! How many there are: a group by where it puts a place, and by the chain. Pure. -/
section

theorem gp_orb_stab {G : gp_f → Prop} (hG : gp_sg G) {p a o b : Nat} (ha : gp_card G a)
    (ho : gp_card (fun q => ∃ x, G x ∧ x p = q) o) (hb : gp_card (fun x => G x ∧ x p = p) b) : a = o * b := by
  obtain ⟨l, hn, hl, hm⟩ := ho
  have := gp_fib (fun x : gp_f => x p) l hn G a ha (fun x hx => (hm _).2 ⟨x, hx, rfl⟩) (m := b) (by
    intro q hq
    obtain ⟨y, hy, hyq⟩ := (hm q).1 hq
    obtain ⟨y', hy', hi⟩ := hG.2.2 y hy
    refine gp_card_congr (gp_card_img hb (fun x => y ∘ x) ?_) (fun z => ?_)
    · intro x z _ _ e
      funext r
      exact gp_inv_inj hi (congrFun e r)
    · constructor
      · rintro ⟨x, ⟨hx, hxp⟩, rfl⟩
        refine ⟨hG.2.1 _ _ hy hx, ?_⟩
        show y (x p) = q
        rw [hxp, hyq]
      · rintro ⟨hz, hzq⟩
        refine ⟨y' ∘ z, ⟨hG.2.1 _ _ hy' hz, ?_⟩, ?_⟩
        · show y' (z p) = p
          rw [hzq, ← hyq, hi.2]
        · funext r
          exact hi.1 (z r))
  rw [this, hl]

/-- sn i ... sn (i + k - 1), multiplied -/
def ch_pr (sn : Nat → Nat) : Nat → Nat → Nat
  | _, 0 => 1
  | i, k + 1 => sn i * ch_pr sn (i + 1) k

theorem ch_pr_last (sn : Nat → Nat) : ∀ (k i : Nat), ch_pr sn i (k + 1) = ch_pr sn i k * sn (i + k) := by
  intro k
  induction k with
  | zero => intro i; simp [ch_pr]
  | succ k ih =>
    intro i
    show sn i * ch_pr sn (i + 1) (k + 1) = sn i * ch_pr sn (i + 1) k * sn (i + (k + 1))
    rw [ih (i + 1), Nat.mul_assoc]
    have : i + 1 + k = i + (k + 1) := by omega
    rw [this]

section
variable {n : Nat} {gs : Nat → List gp_f} {pr : Nat → Nat → Nat} {sn : Nat → Nat} {sp : Nat → Nat → Nat}
  {wb : Nat → Nat → gp_f}

theorem ch_card (h : ch_ok n gs pr sn sp wb) (hd : ∀ i, i < n → ch_done gs pr sn i) : ∀ k i, i + k = n →
    gp_card (ch_G (gs i)) (ch_pr sn i k) := by
  intro k
  induction k with
  | zero =>
    intro i hi
    have : i = n := by omega
    subst this
    rw [h.1]
    refine ⟨[id], by simp, rfl, fun x => ?_⟩
    rw [List.mem_singleton]
    constructor
    · intro e; rw [e]; exact gp_gen_id
    · intro hx
      exact gp_gen_min (M := fun x => x = id) rfl (fun t _ ht _ => absurd ht (List.not_mem_nil)) x hx
  | succ k ih =>
    intro i hi
    have hin : i < n := by omega
    obtain ⟨a, ha⟩ := gp_card_sub (gp_card_sym (ch_D n i) (ch_D_nodup n i)) (ch_in_sym h (Nat.le_of_lt hin))
    have h1 := ih (i + 1) (by omega)
    have h2 : gp_card (fun x => ch_G (gs i) x ∧ x i = i) (ch_pr sn (i + 1) k) :=
      gp_card_congr h1 (ch_stab h hin (hd i hin))
    have h3 : gp_card (fun q => ∃ x, ch_G (gs i) x ∧ x i = q) (sn i) := by
      have hl := (h.2 i hin).1
      refine ⟨(List.range (sn i)).map (sp i), ?_, ?_, fun q => ?_⟩
      · refine gp_nodup_map List.nodup_range (fun s t hs ht e => ?_)
        exact hl.2.2.2.2.2 s t (List.mem_range.1 hs) (List.mem_range.1 ht) e
      · rw [List.length_map, List.length_range]
      · rw [List.mem_map]
        refine Iff.trans ?_ (ch_spread h hin (hd i hin) q)
        constructor
        · rintro ⟨s, hs, e⟩; exact ⟨s, List.mem_range.1 hs, e⟩
        · rintro ⟨s, hs, e⟩; exact ⟨s, List.mem_range.2 hs, e⟩
    have h4 := gp_orb_stab (ch_sg h (Nat.le_of_lt hin)) ha h3 h2
    rw [h4] at ha
    exact ha

end

end
end
section
/-! The chain as it is made: what each step keeps. Pure. -/
section

/-- the links from a on are done; each row of a link made its group larger -/
def ch_inv (n : Nat) (gs : Nat → List gp_f) (pr : Nat → Nat → Nat) (sn : Nat → Nat) (sp : Nat → Nat → Nat)
    (wb : Nat → Nat → gp_f) (a : Nat) : Prop :=
  ch_ok n gs pr sn sp wb ∧ (∀ i, a ≤ i → i < n → ch_done gs pr sn i) ∧
    ∀ i, i < n → gp_lam (gs i).length (ch_G (gs i))

section
variable {n : Nat} {gs : Nat → List gp_f} {pr : Nat → Nat → Nat} {sn : Nat → Nat} {sp : Nat → Nat → Nat}
  {wb : Nat → Nat → gp_f} {a : Nat}

/-- a link is left upwards -/
theorem ch_pop (h : ch_inv n gs pr sn sp wb (a + 1)) (hd : a < n → ch_done gs pr sn a) : ch_inv n gs pr sn sp wb a := by
  refine ⟨h.1, fun i hi hin => ?_, h.2.2⟩
  rcases Nat.lt_or_eq_of_le hi with h1 | h1
  · exact h.2.1 i h1 hin
  · rw [← h1]
    exact hd (by omega)

/-- one pair more of link a is done: what it gives is of the link below -/
theorem ch_pair (h : ch_inv n gs pr sn sp wb (a + 1)) (ha : a < n) {k s t : Nat} {g u : gp_f} (hk : (gs a)[k]? = some g)
    (hs : s = pr a k) (hsn : s < sn a) (ht : t < sn a) (hq : sp a t = g (sp a s)) (hu : u ∘ wb a s = wb a t ∘ g)
    (hin : ch_G (gs (a + 1)) u) : ch_inv n gs (va_up pr a (va_up (pr a) k (s + 1))) sn sp wb (a + 1) := by
  obtain ⟨⟨h0, h1⟩, h2, h3⟩ := h
  refine ⟨⟨h0, fun i hi => ?_⟩, fun i hi hin => ?_, h3⟩
  · obtain ⟨c1, c2, c3, c4⟩ := h1 i hi
    by_cases e : i = a
    · subst e
      refine ⟨c1, ?_, c3, ?_⟩
      · rw [va_up_self]
        intro k' g' hk' s' hs'
        by_cases ek : k' = k
        · subst ek
          rw [va_up_self] at hs'
          by_cases es : s' = s
          · subst es
            rw [hk] at hk'
            cases hk'
            exact ⟨t, ht, hq, u, hin, hu⟩
          · exact c2 k' g' hk' s' (by omega)
        · rw [va_up_ne _ _ ek] at hs'
          exact c2 k' g' hk' s' hs'
      · rw [va_up_self]
        intro k' g' hk'
        by_cases ek : k' = k
        · subst ek
          rw [va_up_self]
          omega
        · rw [va_up_ne _ _ ek]
          exact c4 k' g' hk'
    · rw [va_up_ne _ _ e]
      exact ⟨c1, c2, c3, c4⟩
  · have e : i ≠ a := by omega
    have := h2 i hi hin
    unfold ch_done at this ⊢
    rw [va_up_ne _ _ e]
    exact this

/-- a pair of link a reaches a new place -/
theorem ch_wide (h : ch_inv n gs pr sn sp wb (a + 1)) (ha : a < n) {k s : Nat} {g g' : gp_f} (hk : (gs a)[k]? = some g)
    (hs : s = pr a k) (hsn : s < sn a) (hi : gp_inv g g') (hnew : ∀ t, t < sn a → sp a t ≠ g (sp a s)) :
    ch_inv n gs (va_up pr a (va_up (pr a) k (s + 1))) (va_up sn a (sn a + 1))
      (va_up sp a (va_up (sp a) (sn a) (g (sp a s)))) (va_up wb a (va_up (wb a) (sn a) (wb a s ∘ g'))) (a + 1) := by
  obtain ⟨⟨h0, h1⟩, h2, h3⟩ := h
  refine ⟨⟨h0, fun i hi' => ?_⟩, fun i hi' hin => ?_, h3⟩
  · obtain ⟨c1, c2, c3, c4⟩ := h1 i hi'
    by_cases e : i = a
    · subst e
      obtain ⟨d1, d2, d3, d4, d5, d6⟩ := c1
      have hgm : g ∈ gs i := List.mem_of_getElem? hk
      have hsg : gp_sg (ch_G (gs i)) := gp_gen_sg (ch_D_nodup n i) d1
      have hg'm : ch_G (gs i) g' := gp_sg_inv hsg (gp_gen_mem hgm) hi
      have hne : ∀ x, x < sn i → x ≠ sn i := fun x hx => Nat.ne_of_lt hx
      simp only [va_up_self]
      refine ⟨⟨d1, by omega, ?_, ?_, ?_, ?_⟩, ?_, c3, ?_⟩
      · rw [va_up_ne _ _ (hne 0 d2)]; exact d3
      · rw [va_up_ne _ _ (hne 0 d2)]; exact d4
      · intro x hx
        by_cases ex : x = sn i
        · rw [ex, va_up_self, va_up_self]
          refine ⟨gp_gen_comp (d5 s hsn).1 hg'm, ?_⟩
          show wb i s (g' (g (sp i s))) = i
          rw [hi.2]
          exact (d5 s hsn).2
        · rw [va_up_ne _ _ ex, va_up_ne _ _ ex]
          exact d5 x (by omega)
      · intro x y hx hy
        by_cases ex : x = sn i
        · by_cases ey : y = sn i
          · intro _; rw [ex, ey]
          · rw [ex, va_up_self, va_up_ne _ _ ey]
            intro exy
            exact absurd exy.symm (hnew y (by omega))
        · by_cases ey : y = sn i
          · rw [ey, va_up_self, va_up_ne _ _ ex]
            intro exy
            exact absurd exy (hnew x (by omega))
          · rw [va_up_ne _ _ ex, va_up_ne _ _ ey]
            exact d6 x y (by omega) (by omega)
      · intro k' f hk' s' hs'
        have old : s' < pr i k' → ∃ t, t < sn i + 1 ∧ va_up (sp i) (sn i) (g (sp i s)) t = f (va_up (sp i) (sn i) (g (sp i s)) s') ∧
            ∃ u, ch_G (gs (i + 1)) u ∧ u ∘ va_up (wb i) (sn i) (wb i s ∘ g') s' = va_up (wb i) (sn i) (wb i s ∘ g') t ∘ f := by
          intro hs''
          obtain ⟨t, ht, e1, u, hu, e2⟩ := c2 k' f hk' s' hs''
          have hs3 : s' < sn i := Nat.lt_of_lt_of_le hs'' (c4 k' f hk')
          refine ⟨t, by omega, ?_, u, hu, ?_⟩
          · rw [va_up_ne _ _ (hne t ht), va_up_ne _ _ (hne s' hs3)]; exact e1
          · rw [va_up_ne _ _ (hne t ht), va_up_ne _ _ (hne s' hs3)]; exact e2
        by_cases ek : k' = k
        · subst ek
          rw [va_up_self] at hs'
          by_cases es : s' = s
          · rw [hk] at hk'
            cases hk'
            rw [es]
            refine ⟨sn i, by omega, ?_, id, gp_gen_id, ?_⟩
            · rw [va_up_self, va_up_ne _ _ (hne s hsn)]
            · rw [va_up_self, va_up_ne _ _ (hne s hsn)]
              funext x
              show wb i s x = wb i s (g' (g x))
              rw [hi.2]
          · exact old (by omega)
        · rw [va_up_ne _ _ ek] at hs'
          exact old hs'
      · intro k' g' hk'
        by_cases ek : k' = k
        · subst ek
          rw [va_up_self]
          omega
        · rw [va_up_ne _ _ ek]
          have := c4 k' g' hk'
          omega
    · simp only [va_up_ne _ _ e]
      exact ⟨c1, c2, c3, c4⟩
  · have e : i ≠ a := by omega
    have := h2 i hi' hin
    unfold ch_done at this ⊢
    simp only [va_up_ne _ _ e]
    exact this

/-- a row that isn't of link b is put to it -/
theorem ch_add {b : Nat} (h : ch_inv n gs pr sn sp wb b) (hb : b < n) {r : gp_f} (hr : gp_sym (ch_D n b) r) (hnr : ¬ ch_G (gs b) r)
    (hup : ∀ i, i + 1 = b → ch_G (gs i) r) :
    ch_inv n (va_up gs b (gs b ++ [r])) (va_up pr b (va_up (pr b) (gs b).length 0)) sn sp wb (b + 1) := by
  obtain ⟨⟨h0, h1⟩, h2, h3⟩ := h
  have hmono : ∀ x, ch_G (gs b) x → ch_G (gs b ++ [r]) x :=
    gp_gen_mono (fun t ht => List.mem_append_left _ ht)
  have hsym : ∀ g, g ∈ gs b ++ [r] → gp_sym (ch_D n b) g := by
    intro g hg
    rcases List.mem_append.1 hg with hg | hg
    · exact (h1 b hb).1.1 g hg
    · rw [List.mem_singleton.1 hg]; exact hr
  refine ⟨⟨?_, fun i hi => ?_⟩, fun i hi hin => ?_, fun i hi => ?_⟩
  · rw [va_up_ne _ _ (by omega : n ≠ b)]; exact h0
  · obtain ⟨c1, c2, c3, c4⟩ := h1 i hi
    by_cases e : i = b
    · subst e
      have e1 : i + 1 ≠ i := by omega
      rw [va_up_self, va_up_self, va_up_ne _ _ e1]
      refine ⟨⟨hsym, c1.2.1, c1.2.2.1, c1.2.2.2.1, fun s hs => ⟨hmono _ (c1.2.2.2.2.1 s hs).1, (c1.2.2.2.2.1 s hs).2⟩, c1.2.2.2.2.2⟩, ?_, ?_, ?_⟩
      · intro k g hk s hs
        by_cases ek : k = (gs i).length
        · rw [ek, va_up_self] at hs
          exact absurd hs (Nat.not_lt_zero _)
        · rw [va_up_ne _ _ ek] at hs
          have hk' : k < (gs i).length := by
            have := (List.getElem?_eq_some_iff.1 hk).1
            rw [List.length_append] at this
            simp at this
            omega
          rw [List.getElem?_append_left hk'] at hk
          exact c2 k g hk s hs
      · exact fun g hg => hmono g (c3 g hg)
      · intro k g hk
        by_cases ek : k = (gs i).length
        · rw [ek, va_up_self]; exact Nat.zero_le _
        · rw [va_up_ne _ _ ek]
          have hk' : k < (gs i).length := by
            have := (List.getElem?_eq_some_iff.1 hk).1
            rw [List.length_append] at this
            simp at this
            omega
          rw [List.getElem?_append_left hk'] at hk
          exact c4 k g hk
    · rw [va_up_ne _ _ e, va_up_ne _ _ e]
      by_cases e1 : i + 1 = b
      · subst e1
        rw [va_up_self]
        refine ⟨c1, ?_, ?_, c4⟩
        · intro k g hk s hs
          obtain ⟨t, ht, e2, u, hu, e3⟩ := c2 k g hk s hs
          exact ⟨t, ht, e2, u, hmono u hu, e3⟩
        · intro g hg
          rcases List.mem_append.1 hg with hg | hg
          · exact c3 g hg
          · rw [List.mem_singleton.1 hg]; exact hup i rfl
      · rw [va_up_ne _ _ e1]
        exact ⟨c1, c2, c3, c4⟩
  · have e : i ≠ b := by omega
    have := h2 i (by omega) hin
    unfold ch_done at this ⊢
    rw [va_up_ne _ _ e, va_up_ne _ _ e]
    exact this
  · by_cases e : i = b
    · subst e
      rw [va_up_self, List.length_append]
      refine ⟨gp_gen_sg (ch_D_nodup n i) hsym, ch_G (gs i), h3 i hi, hmono, r, ?_, hnr⟩
      exact gp_gen_mem (List.mem_append_right _ (List.mem_singleton.2 rfl))
    · rw [va_up_ne _ _ e]
      exact h3 i hi

/-- how many rows a link has at most -/
theorem ch_most (h : ch_inv n gs pr sn sp wb a) (hn : n ≤ 24) {i : Nat} (hi : i < n) (hi0 : 0 < i ∨ n < 24) :
    (gs i).length ≤ (n - i) * 3 / 2 := by
  have := gp_chain (D := ch_D n i) (ch_D_nodup n i) (by rw [ch_D_len]; omega) (ch_in_sym h.1 (Nat.le_of_lt hi)) (h.2.2 i hi)
  rw [ch_D_len] at this
  exact this

/-- what a pair gives: it leaves the places up to the link's -/
theorem ch_round (h : ch_ok n gs pr sn sp wb) (ha : a < n) {s t : Nat} {g u : gp_f} (hg : g ∈ gs a) (hsn : s < sn a)
    (ht : t < sn a) (hq : sp a t = g (sp a s)) (hu : u ∘ wb a s = wb a t ∘ g) :
    ch_G (gs a) u ∧ gp_sym (ch_D n (a + 1)) u := by
  obtain ⟨c1, c2, c3, c4⟩ := h.2 a ha
  have hsg := ch_sg h (Nat.le_of_lt ha)
  obtain ⟨w, hw, hwi⟩ := hsg.2.2 _ (c1.2.2.2.2.1 s hsn).1
  have e : u = (wb a t ∘ g) ∘ w := by
    rw [← hu]
    funext x
    show u x = u (wb a s (w x))
    rw [hwi.1]
  have hG : ch_G (gs a) u := by
    rw [e]
    exact hsg.2.1 _ _ (hsg.2.1 _ _ (c1.2.2.2.2.1 t ht).1 (gp_gen_mem hg)) hw
  refine ⟨hG, ?_⟩
  have hs := ch_in_sym h (Nat.le_of_lt ha) u hG
  refine ⟨hs.1, fun p hp => ?_⟩
  by_cases ep : p = a
  · subst ep
    have := congrFun hu (sp p s)
    have h2 : u (wb p s (sp p s)) = wb p t (g (sp p s)) := this
    rw [(c1.2.2.2.2.1 s hsn).2, ← hq, (c1.2.2.2.2.1 t ht).2] at h2
    exact h2
  · refine hs.2 p (fun hm => hp ?_)
    rw [ch_D_mem] at hm ⊢
    omega

end

end
end
section
-- ===== PART A: goes FIRST, ahead of the names: the tables' words, and 'selects' of the private methods out of them =====
/-- a private method of a class that the tables say can be made, by its rows of tables_1 -/
def lw_okq (q : MethodName × Nat) : Prop := (q.1.cls ≠ "java/lang/invoke/MethodHandle" ∧ q.1.cls ≠ "java/lang/invoke/VarHandle") ∧ Cond.instantiable q.1.cls q.2 ∈ tables_1 ∧ Cond.privateMethod q.1 ∈ tables_1 ∧ Cond.instanceMethod q.1 ∈ tables_1
theorem lw_p0 : lw_okq (⟨"CycleGroups", "isMove", "(I)Z"⟩, 9) := ⟨⟨by decide +kernel, by decide +kernel⟩, List.mem_of_getElem? (i := 11) (by decide +kernel), List.mem_of_getElem? (i := 87) (by decide +kernel), List.mem_of_getElem? (i := 88) (by decide +kernel)⟩
theorem lw_p1 : lw_okq (⟨"CycleGroups", "isPlace", "(I)Z"⟩, 9) := ⟨⟨by decide +kernel, by decide +kernel⟩, List.mem_of_getElem? (i := 11) (by decide +kernel), List.mem_of_getElem? (i := 91) (by decide +kernel), List.mem_of_getElem? (i := 92) (by decide +kernel)⟩
theorem lw_p2 : lw_okq (⟨"CycleGroups", "freshChain", "()LCycleGroups$Chain;"⟩, 9) := ⟨⟨by decide +kernel, by decide +kernel⟩, List.mem_of_getElem? (i := 11) (by decide +kernel), List.mem_of_getElem? (i := 99) (by decide +kernel), List.mem_of_getElem? (i := 100) (by decide +kernel)⟩
theorem lw_p3 : lw_okq (⟨"CycleGroups$Chain", "siftWork", "(I)I"⟩, 3) := ⟨⟨by decide +kernel, by decide +kernel⟩, List.mem_of_getElem? (i := 103) (by decide +kernel), List.mem_of_getElem? (i := 168) (by decide +kernel), List.mem_of_getElem? (i := 169) (by decide +kernel)⟩
theorem lw_p4 : lw_okq (⟨"CycleGroups$Chain", "complete", "()V"⟩, 3) := ⟨⟨by decide +kernel, by decide +kernel⟩, List.mem_of_getElem? (i := 103) (by decide +kernel), List.mem_of_getElem? (i := 181) (by decide +kernel), List.mem_of_getElem? (i := 182) (by decide +kernel)⟩
theorem lw_p5 : lw_okq (⟨"CycleGroups$Chain", "advance", "(I)I"⟩, 3) := ⟨⟨by decide +kernel, by decide +kernel⟩, List.mem_of_getElem? (i := 103) (by decide +kernel), List.mem_of_getElem? (i := 186) (by decide +kernel), List.mem_of_getElem? (i := 187) (by decide +kernel)⟩
theorem lw_p6 : lw_okq (⟨"CycleGroups$Link", "widen", "(I[I[I)V"⟩, 7) := ⟨⟨by decide +kernel, by decide +kernel⟩, List.mem_of_getElem? (i := 110) (by decide +kernel), List.mem_of_getElem? (i := 198) (by decide +kernel), List.mem_of_getElem? (i := 199) (by decide +kernel)⟩
theorem lw_p7 : lw_okq (⟨"CycleGroups", "countGroup", "(LCycleGroups$Chain;)V"⟩, 9) := ⟨⟨by decide +kernel, by decide +kernel⟩, List.mem_of_getElem? (i := 11) (by decide +kernel), List.mem_of_getElem? (i := 222) (by decide +kernel), List.mem_of_getElem? (i := 223) (by decide +kernel)⟩
theorem lw_p8 : lw_okq (⟨"CycleGroups$Decimal", "length", "()I"⟩, 1) := ⟨⟨by decide +kernel, by decide +kernel⟩, List.mem_of_getElem? (i := 38) (by decide +kernel), List.mem_of_getElem? (i := 239) (by decide +kernel), List.mem_of_getElem? (i := 240) (by decide +kernel)⟩
theorem lw_p9 : lw_okq (⟨"CycleGroups$Partition", "joinImagesOnce", "([I)Z"⟩, 1) := ⟨⟨by decide +kernel, by decide +kernel⟩, List.mem_of_getElem? (i := 27) (by decide +kernel), List.mem_of_getElem? (i := 287) (by decide +kernel), List.mem_of_getElem? (i := 288) (by decide +kernel)⟩
theorem lw_p10 : lw_okq (⟨"CycleGroups", "isState", "(I)Z"⟩, 9) := ⟨⟨by decide +kernel, by decide +kernel⟩, List.mem_of_getElem? (i := 11) (by decide +kernel), List.mem_of_getElem? (i := 299) (by decide +kernel), List.mem_of_getElem? (i := 300) (by decide +kernel)⟩
theorem lw_p11 : lw_okq (⟨"CycleGroupsModel", "isPlace", "(I)Z"⟩, 24) := ⟨⟨by decide +kernel, by decide +kernel⟩, List.mem_of_getElem? (i := 346) (by decide +kernel), List.mem_of_getElem? (i := 434) (by decide +kernel), List.mem_of_getElem? (i := 435) (by decide +kernel)⟩
theorem lw_p12 : lw_okq (⟨"CycleGroupsModel", "isState", "(I)Z"⟩, 24) := ⟨⟨by decide +kernel, by decide +kernel⟩, List.mem_of_getElem? (i := 346) (by decide +kernel), List.mem_of_getElem? (i := 446) (by decide +kernel), List.mem_of_getElem? (i := 447) (by decide +kernel)⟩
theorem lw_p13 : lw_okq (⟨"CycleGroupsModel", "applyMove", "(II)V"⟩, 24) := ⟨⟨by decide +kernel, by decide +kernel⟩, List.mem_of_getElem? (i := 346) (by decide +kernel), List.mem_of_getElem? (i := 450) (by decide +kernel), List.mem_of_getElem? (i := 451) (by decide +kernel)⟩
theorem lw_p14 : lw_okq (⟨"CycleGroupsModel", "know", "()V"⟩, 24) := ⟨⟨by decide +kernel, by decide +kernel⟩, List.mem_of_getElem? (i := 346) (by decide +kernel), List.mem_of_getElem? (i := 472) (by decide +kernel), List.mem_of_getElem? (i := 473) (by decide +kernel)⟩
theorem lw_p15 : lw_okq (⟨"CycleGroupsModel", "spreadOf", "(I)V"⟩, 24) := ⟨⟨by decide +kernel, by decide +kernel⟩, List.mem_of_getElem? (i := 346) (by decide +kernel), List.mem_of_getElem? (i := 476) (by decide +kernel), List.mem_of_getElem? (i := 477) (by decide +kernel)⟩
def lw_privs_1 : List (MethodName × Nat) := [(⟨"CycleGroups", "isMove", "(I)Z"⟩, 9), (⟨"CycleGroups", "isPlace", "(I)Z"⟩, 9), (⟨"CycleGroups", "freshChain", "()LCycleGroups$Chain;"⟩, 9), (⟨"CycleGroups$Chain", "siftWork", "(I)I"⟩, 3), (⟨"CycleGroups$Chain", "complete", "()V"⟩, 3), (⟨"CycleGroups$Chain", "advance", "(I)I"⟩, 3), (⟨"CycleGroups$Link", "widen", "(I[I[I)V"⟩, 7), (⟨"CycleGroups", "countGroup", "(LCycleGroups$Chain;)V"⟩, 9), (⟨"CycleGroups$Decimal", "length", "()I"⟩, 1), (⟨"CycleGroups$Partition", "joinImagesOnce", "([I)Z"⟩, 1), (⟨"CycleGroups", "isState", "(I)Z"⟩, 9), (⟨"CycleGroupsModel", "isPlace", "(I)Z"⟩, 24), (⟨"CycleGroupsModel", "isState", "(I)Z"⟩, 24), (⟨"CycleGroupsModel", "applyMove", "(II)V"⟩, 24), (⟨"CycleGroupsModel", "know", "()V"⟩, 24), (⟨"CycleGroupsModel", "spreadOf", "(I)V"⟩, 24)]
theorem lw_r1 : ∀ q ∈ lw_privs_1, lw_okq q := List.forall_mem_cons.mpr ⟨lw_p0, List.forall_mem_cons.mpr ⟨lw_p1, List.forall_mem_cons.mpr ⟨lw_p2, List.forall_mem_cons.mpr ⟨lw_p3, List.forall_mem_cons.mpr ⟨lw_p4, List.forall_mem_cons.mpr ⟨lw_p5, List.forall_mem_cons.mpr ⟨lw_p6, List.forall_mem_cons.mpr ⟨lw_p7, List.forall_mem_cons.mpr ⟨lw_p8, List.forall_mem_cons.mpr ⟨lw_p9, List.forall_mem_cons.mpr ⟨lw_p10, List.forall_mem_cons.mpr ⟨lw_p11, List.forall_mem_cons.mpr ⟨lw_p12, List.forall_mem_cons.mpr ⟨lw_p13, List.forall_mem_cons.mpr ⟨lw_p14, List.forall_mem_cons.mpr ⟨lw_p15, fun _ h => absurd h List.not_mem_nil⟩⟩⟩⟩⟩⟩⟩⟩⟩⟩⟩⟩⟩⟩⟩⟩
theorem lw_p16 : lw_okq (⟨"CycleGroupsModel", "nextPart", "(I)V"⟩, 24) := ⟨⟨by decide +kernel, by decide +kernel⟩, List.mem_of_getElem? (i := 346) (by decide +kernel), List.mem_of_getElem? (i := 480) (by decide +kernel), List.mem_of_getElem? (i := 481) (by decide +kernel)⟩
theorem lw_p17 : lw_okq (⟨"CycleGroupsModel", "undo", "(II)V"⟩, 24) := ⟨⟨by decide +kernel, by decide +kernel⟩, List.mem_of_getElem? (i := 346) (by decide +kernel), List.mem_of_getElem? (i := 484) (by decide +kernel), List.mem_of_getElem? (i := 485) (by decide +kernel)⟩
theorem lw_p18 : lw_okq (⟨"CycleGroupsModel", "keep", "()V"⟩, 24) := ⟨⟨by decide +kernel, by decide +kernel⟩, List.mem_of_getElem? (i := 346) (by decide +kernel), List.mem_of_getElem? (i := 488) (by decide +kernel), List.mem_of_getElem? (i := 489) (by decide +kernel)⟩
theorem lw_p19 : lw_okq (⟨"CycleGroupsModel", "leastMoved", "()I"⟩, 24) := ⟨⟨by decide +kernel, by decide +kernel⟩, List.mem_of_getElem? (i := 346) (by decide +kernel), List.mem_of_getElem? (i := 492) (by decide +kernel), List.mem_of_getElem? (i := 493) (by decide +kernel)⟩
theorem lw_p20 : lw_okq (⟨"CycleGroupsModel", "walk", "(II)Z"⟩, 24) := ⟨⟨by decide +kernel, by decide +kernel⟩, List.mem_of_getElem? (i := 346) (by decide +kernel), List.mem_of_getElem? (i := 496) (by decide +kernel), List.mem_of_getElem? (i := 497) (by decide +kernel)⟩
theorem lw_p21 : lw_okq (⟨"CycleGroupsModel", "put", "(II)V"⟩, 24) := ⟨⟨by decide +kernel, by decide +kernel⟩, List.mem_of_getElem? (i := 346) (by decide +kernel), List.mem_of_getElem? (i := 500) (by decide +kernel), List.mem_of_getElem? (i := 501) (by decide +kernel)⟩
theorem lw_p22 : lw_okq (⟨"CycleGroupsModel", "free", "()I"⟩, 24) := ⟨⟨by decide +kernel, by decide +kernel⟩, List.mem_of_getElem? (i := 346) (by decide +kernel), List.mem_of_getElem? (i := 504) (by decide +kernel), List.mem_of_getElem? (i := 505) (by decide +kernel)⟩
theorem lw_p23 : lw_okq (⟨"CycleGroupsModel", "edgeBetween", "(III)I"⟩, 24) := ⟨⟨by decide +kernel, by decide +kernel⟩, List.mem_of_getElem? (i := 346) (by decide +kernel), List.mem_of_getElem? (i := 508) (by decide +kernel), List.mem_of_getElem? (i := 509) (by decide +kernel)⟩
theorem lw_p24 : lw_okq (⟨"CycleGroupsModel", "along", "(IZ)V"⟩, 24) := ⟨⟨by decide +kernel, by decide +kernel⟩, List.mem_of_getElem? (i := 346) (by decide +kernel), List.mem_of_getElem? (i := 512) (by decide +kernel), List.mem_of_getElem? (i := 513) (by decide +kernel)⟩
theorem lw_p25 : lw_okq (⟨"CycleGroupsModel", "spreadSize", "(I)I"⟩, 24) := ⟨⟨by decide +kernel, by decide +kernel⟩, List.mem_of_getElem? (i := 346) (by decide +kernel), List.mem_of_getElem? (i := 516) (by decide +kernel), List.mem_of_getElem? (i := 517) (by decide +kernel)⟩
theorem lw_p26 : lw_okq (⟨"CycleGroupsModel", "digitOf", "(II)I"⟩, 24) := ⟨⟨by decide +kernel, by decide +kernel⟩, List.mem_of_getElem? (i := 346) (by decide +kernel), List.mem_of_getElem? (i := 532) (by decide +kernel), List.mem_of_getElem? (i := 533) (by decide +kernel)⟩
theorem lw_p27 : lw_okq (⟨"CycleGroupsModel", "orbits", "()V"⟩, 24) := ⟨⟨by decide +kernel, by decide +kernel⟩, List.mem_of_getElem? (i := 346) (by decide +kernel), List.mem_of_getElem? (i := 540) (by decide +kernel), List.mem_of_getElem? (i := 541) (by decide +kernel)⟩
theorem lw_p28 : lw_okq (⟨"CycleGroupsModel", "share", "()V"⟩, 24) := ⟨⟨by decide +kernel, by decide +kernel⟩, List.mem_of_getElem? (i := 346) (by decide +kernel), List.mem_of_getElem? (i := 544) (by decide +kernel), List.mem_of_getElem? (i := 545) (by decide +kernel)⟩
theorem lw_p29 : lw_okq (⟨"CycleGroupsModel", "joinSets", "(II)Z"⟩, 24) := ⟨⟨by decide +kernel, by decide +kernel⟩, List.mem_of_getElem? (i := 346) (by decide +kernel), List.mem_of_getElem? (i := 548) (by decide +kernel), List.mem_of_getElem? (i := 549) (by decide +kernel)⟩
theorem lw_p30 : lw_okq (⟨"CycleGroupsModel", "sizeOf", "(I)I"⟩, 24) := ⟨⟨by decide +kernel, by decide +kernel⟩, List.mem_of_getElem? (i := 346) (by decide +kernel), List.mem_of_getElem? (i := 556) (by decide +kernel), List.mem_of_getElem? (i := 557) (by decide +kernel)⟩
theorem lw_p31 : lw_okq (⟨"CycleGroupsModel", "roundOf", "(II)I"⟩, 24) := ⟨⟨by decide +kernel, by decide +kernel⟩, List.mem_of_getElem? (i := 346) (by decide +kernel), List.mem_of_getElem? (i := 581) (by decide +kernel), List.mem_of_getElem? (i := 582) (by decide +kernel)⟩
def lw_privs_2 : List (MethodName × Nat) := [(⟨"CycleGroupsModel", "nextPart", "(I)V"⟩, 24), (⟨"CycleGroupsModel", "undo", "(II)V"⟩, 24), (⟨"CycleGroupsModel", "keep", "()V"⟩, 24), (⟨"CycleGroupsModel", "leastMoved", "()I"⟩, 24), (⟨"CycleGroupsModel", "walk", "(II)Z"⟩, 24), (⟨"CycleGroupsModel", "put", "(II)V"⟩, 24), (⟨"CycleGroupsModel", "free", "()I"⟩, 24), (⟨"CycleGroupsModel", "edgeBetween", "(III)I"⟩, 24), (⟨"CycleGroupsModel", "along", "(IZ)V"⟩, 24), (⟨"CycleGroupsModel", "spreadSize", "(I)I"⟩, 24), (⟨"CycleGroupsModel", "digitOf", "(II)I"⟩, 24), (⟨"CycleGroupsModel", "orbits", "()V"⟩, 24), (⟨"CycleGroupsModel", "share", "()V"⟩, 24), (⟨"CycleGroupsModel", "joinSets", "(II)Z"⟩, 24), (⟨"CycleGroupsModel", "sizeOf", "(I)I"⟩, 24), (⟨"CycleGroupsModel", "roundOf", "(II)I"⟩, 24)]
theorem lw_r2 : ∀ q ∈ lw_privs_2, lw_okq q := List.forall_mem_cons.mpr ⟨lw_p16, List.forall_mem_cons.mpr ⟨lw_p17, List.forall_mem_cons.mpr ⟨lw_p18, List.forall_mem_cons.mpr ⟨lw_p19, List.forall_mem_cons.mpr ⟨lw_p20, List.forall_mem_cons.mpr ⟨lw_p21, List.forall_mem_cons.mpr ⟨lw_p22, List.forall_mem_cons.mpr ⟨lw_p23, List.forall_mem_cons.mpr ⟨lw_p24, List.forall_mem_cons.mpr ⟨lw_p25, List.forall_mem_cons.mpr ⟨lw_p26, List.forall_mem_cons.mpr ⟨lw_p27, List.forall_mem_cons.mpr ⟨lw_p28, List.forall_mem_cons.mpr ⟨lw_p29, List.forall_mem_cons.mpr ⟨lw_p30, List.forall_mem_cons.mpr ⟨lw_p31, fun _ h => absurd h List.not_mem_nil⟩⟩⟩⟩⟩⟩⟩⟩⟩⟩⟩⟩⟩⟩⟩⟩
def lw_privs : List (MethodName × Nat) := lw_privs_1 ++ (lw_privs_2)
def lw_tbl : List Cond := k2_sels lw_privs ++ tables_1
theorem lw_privs_ok : ∀ q ∈ lw_privs, lw_okq q := by
  show ∀ q ∈ lw_privs_1 ++ (lw_privs_2), lw_okq q
  exact List.forall_mem_append.mpr ⟨lw_r1, lw_r2⟩
end
section
def R_C : String := "CycleGroups"
def F_C : u_T := fun k => match k with
  | 0 => ("CycleGroups", "places", "I", true)
  | 1 => ("CycleGroups", "moves", "[[I", true)
  | 2 => ("CycleGroups", "movesMade", "I", false)
  | 3 => ("CycleGroups", "states", "[[I", true)
  | 4 => ("CycleGroups", "statesMade", "I", false)
  | 5 => ("CycleGroups", "partition", "LCycleGroups$Partition;", true)
  | 6 => ("CycleGroups", "decimal", "LCycleGroups$Decimal;", true)
  | 7 => ("CycleGroups", "chain", "LCycleGroups$Chain;", false)
  | _ => ("CycleGroups", "chainIsStale", "Z", false)
def t_C : Nat → FieldType := fun k => match k with
  | 0 => .int
  | 1 => .array (.array .int)
  | 2 => .int
  | 3 => .array (.array .int)
  | 4 => .int
  | 5 => .object "CycleGroups$Partition"
  | 6 => .object "CycleGroups$Decimal"
  | 7 => .object "CycleGroups$Chain"
  | _ => .boolean
def R_H : String := "CycleGroups$Chain"
def F_H : u_T := fun k => match k with
  | 0 => ("CycleGroups$Chain", "places", "I", true)
  | 1 => ("CycleGroups$Chain", "links", "[LCycleGroups$Link;", true)
  | _ => ("CycleGroups$Chain", "work", "[I", true)
def t_H : Nat → FieldType := fun k => match k with
  | 0 => .int
  | 1 => .array (.object "CycleGroups$Link")
  | _ => .array .int
def R_D : String := "CycleGroups$Decimal"
def F_D : u_T := fun k => match k with
  | _ => ("CycleGroups$Decimal", "digits", "[I", true)
def t_D : Nat → FieldType := fun k => match k with
  | _ => .array .int
def R_K : String := "CycleGroups$Link"
def F_K : u_T := fun k => match k with
  | 0 => ("CycleGroups$Link", "generators", "[[I", true)
  | 1 => ("CycleGroups$Link", "generatorsHeld", "I", false)
  | 2 => ("CycleGroups$Link", "paired", "[I", true)
  | 3 => ("CycleGroups$Link", "spreadPlaces", "[I", true)
  | 4 => ("CycleGroups$Link", "spreadHeld", "I", false)
  | 5 => ("CycleGroups$Link", "indexInSpread", "[I", true)
  | _ => ("CycleGroups$Link", "waysBack", "[[I", true)
def t_K : Nat → FieldType := fun k => match k with
  | 0 => .array (.array .int)
  | 1 => .int
  | 2 => .array .int
  | 3 => .array .int
  | 4 => .int
  | 5 => .array .int
  | _ => .array (.array .int)
def R_P : String := "CycleGroups$Partition"
def F_P : u_T := fun k => match k with
  | _ => ("CycleGroups$Partition", "least", "[I", true)
def t_P : Nat → FieldType := fun k => match k with
  | _ => .array .int
def R_M : String := "CycleGroupsModel"
def F_M : u_T := fun k => match k with
  | 0 => ("CycleGroupsModel", "places", "I", true)
  | 1 => ("CycleGroupsModel", "thrown", "I", false)
  | 2 => ("CycleGroupsModel", "moves", "I", false)
  | 3 => ("CycleGroupsModel", "move", "[I", true)
  | 4 => ("CycleGroupsModel", "states", "I", false)
  | 5 => ("CycleGroupsModel", "state", "[I", true)
  | 6 => ("CycleGroupsModel", "isKnown", "Z", false)
  | 7 => ("CycleGroupsModel", "rows", "[I", true)
  | 8 => ("CycleGroupsModel", "has", "[Z", true)
  | 9 => ("CycleGroupsModel", "makers", "I", false)
  | 10 => ("CycleGroupsModel", "maker", "[I", true)
  | 11 => ("CycleGroupsModel", "low", "[I", true)
  | 12 => ("CycleGroupsModel", "high", "[I", true)
  | 13 => ("CycleGroupsModel", "label", "[I", true)
  | 14 => ("CycleGroupsModel", "isUsed", "[Z", true)
  | 15 => ("CycleGroupsModel", "queue", "[I", true)
  | 16 => ("CycleGroupsModel", "by", "[I", true)
  | 17 => ("CycleGroupsModel", "seen", "[Z", true)
  | 18 => ("CycleGroupsModel", "work", "[I", true)
  | 19 => ("CycleGroupsModel", "round", "[I", true)
  | 20 => ("CycleGroupsModel", "sets", "[I", true)
  | 21 => ("CycleGroupsModel", "digits", "[I", true)
  | 22 => ("CycleGroupsModel", "ring", "[I", true)
  | _ => ("CycleGroupsModel", "more", "[I", true)
def t_M : Nat → FieldType := fun k => match k with
  | 0 => .int
  | 1 => .int
  | 2 => .int
  | 3 => .array .int
  | 4 => .int
  | 5 => .array .int
  | 6 => .boolean
  | 7 => .array .int
  | 8 => .array .boolean
  | 9 => .int
  | 10 => .array .int
  | 11 => .array .int
  | 12 => .array .int
  | 13 => .array .int
  | 14 => .array .boolean
  | 15 => .array .int
  | 16 => .array .int
  | 17 => .array .boolean
  | 18 => .array .int
  | 19 => .array .int
  | 20 => .array .int
  | 21 => .array .int
  | 22 => .array .int
  | _ => .array .int
def R_L : String := "CycleGroupsLaw"
def R_A : String := "java/util/Arrays"
abbrev classes : List vw_C := [(R_C, F_C, 9), (R_H, F_H, 3), (R_D, F_D, 1), (R_K, F_K, 7), (R_P, F_P, 1), (R_M, F_M, 24)]
theorem n_C : ∀ a, a < 9 → ∀ b, b < 9 → a ≠ b → (F_C a).2.1 ≠ (F_C b).2.1 := by decide +kernel
theorem t_C_ok : ∀ k, k < 9 → parseFieldDescriptor (F_C k).2.2.1 = some (t_C k) := by decide +kernel
theorem n_H : ∀ a, a < 3 → ∀ b, b < 3 → a ≠ b → (F_H a).2.1 ≠ (F_H b).2.1 := by decide +kernel
theorem t_H_ok : ∀ k, k < 3 → parseFieldDescriptor (F_H k).2.2.1 = some (t_H k) := by decide +kernel
theorem n_D : ∀ a, a < 1 → ∀ b, b < 1 → a ≠ b → (F_D a).2.1 ≠ (F_D b).2.1 := by decide +kernel
theorem t_D_ok : ∀ k, k < 1 → parseFieldDescriptor (F_D k).2.2.1 = some (t_D k) := by decide +kernel
theorem n_K : ∀ a, a < 7 → ∀ b, b < 7 → a ≠ b → (F_K a).2.1 ≠ (F_K b).2.1 := by decide +kernel
theorem t_K_ok : ∀ k, k < 7 → parseFieldDescriptor (F_K k).2.2.1 = some (t_K k) := by decide +kernel
theorem n_P : ∀ a, a < 1 → ∀ b, b < 1 → a ≠ b → (F_P a).2.1 ≠ (F_P b).2.1 := by decide +kernel
theorem t_P_ok : ∀ k, k < 1 → parseFieldDescriptor (F_P k).2.2.1 = some (t_P k) := by decide +kernel
theorem n_M : ∀ a, a < 24 → ∀ b, b < 24 → a ≠ b → (F_M a).2.1 ≠ (F_M b).2.1 := by decide +kernel
theorem t_M_ok : ∀ k, k < 24 → parseFieldDescriptor (F_M k).2.2.1 = some (t_M k) := by decide +kernel
def tg : List Cond := lw_tbl.filter goodWord
theorem tg_good : ∀ w ∈ tg, (w.onTables && w.keeps) = true ∨ ∃ ty, w = .arrayClass ty := fun w h => good_of_word (List.mem_filter.1 h).2
theorem tg_of {w : Cond} (h : w ∈ lw_tbl) (hg : goodWord w = true) : w ∈ tg := List.mem_filter.2 ⟨h, hg⟩
theorem tg_in {w : Cond} (h : w ∈ tg) : w ∈ lw_tbl := (List.mem_filter.1 h).1
theorem i_C : ∀ w ∈ u_ws R_C F_C 9, w ∈ tg := by decide +kernel
theorem i_H : ∀ w ∈ u_ws R_H F_H 3, w ∈ tg := by decide +kernel
theorem i_D : ∀ w ∈ u_ws R_D F_D 1, w ∈ tg := by decide +kernel
theorem i_K : ∀ w ∈ u_ws R_K F_K 7, w ∈ tg := by decide +kernel
theorem i_P : ∀ w ∈ u_ws R_P F_P 1, w ∈ tg := by decide +kernel
theorem i_M : ∀ w ∈ u_ws R_M F_M 24, w ∈ tg := by decide +kernel
theorem w_0 : Jvm.Cond.initialized "CycleGroupsLaw" ∈ tg := tg_of (List.mem_append_right _ (List.mem_append_left _ (List.mem_of_getElem? (l := tables_1_1) (i := 0) (by rfl)))) rfl
theorem w_1 : Jvm.Cond.initialized "CycleGroups" ∈ tg := tg_of (List.mem_append_right _ (List.mem_append_left _ (List.mem_of_getElem? (l := tables_1_1) (i := 1) (by rfl)))) rfl
theorem w_2 : Jvm.Cond.initialized "java/lang/Math" ∈ tg := tg_of (List.mem_append_right _ (List.mem_append_left _ (List.mem_of_getElem? (l := tables_1_1) (i := 2) (by rfl)))) rfl
theorem w_3 : Jvm.Cond.initialized "CycleGroups$Partition" ∈ tg := tg_of (List.mem_append_right _ (List.mem_append_left _ (List.mem_of_getElem? (l := tables_1_1) (i := 3) (by rfl)))) rfl
theorem w_4 : Jvm.Cond.initialized "CycleGroups$Decimal" ∈ tg := tg_of (List.mem_append_right _ (List.mem_append_left _ (List.mem_of_getElem? (l := tables_1_1) (i := 4) (by rfl)))) rfl
theorem w_5 : Jvm.Cond.initialized "CycleGroupsModel" ∈ tg := tg_of (List.mem_append_right _ (List.mem_append_left _ (List.mem_of_getElem? (l := tables_1_1) (i := 5) (by rfl)))) rfl
theorem w_6 : Jvm.Cond.initialized "CycleGroups$Chain" ∈ tg := tg_of (List.mem_append_right _ (List.mem_append_left _ (List.mem_of_getElem? (l := tables_1_1) (i := 6) (by rfl)))) rfl
theorem w_7 : Jvm.Cond.initialized "CycleGroups$Link" ∈ tg := tg_of (List.mem_append_right _ (List.mem_append_left _ (List.mem_of_getElem? (l := tables_1_1) (i := 7) (by rfl)))) rfl
theorem w_8 : Jvm.Cond.initialized "java/util/Arrays" ∈ tg := tg_of (List.mem_append_right _ (List.mem_append_left _ (List.mem_of_getElem? (l := tables_1_1) (i := 8) (by rfl)))) rfl
theorem w_9 : Jvm.Cond.initialized "java/lang/System" ∈ tg := tg_of (List.mem_append_right _ (List.mem_append_left _ (List.mem_of_getElem? (l := tables_1_1) (i := 9) (by rfl)))) rfl
theorem w_10 : Jvm.Cond.classLink "CycleGroupsLaw" (7 : Nat) "CycleGroups" ∈ tg := tg_of (List.mem_append_right _ (List.mem_append_left _ (List.mem_of_getElem? (l := tables_1_1) (i := 10) (by rfl)))) rfl
theorem w_11 : Jvm.Cond.instantiable "CycleGroups" (9 : Nat) ∈ tg := tg_of (List.mem_append_right _ (List.mem_append_left _ (List.mem_of_getElem? (l := tables_1_1) (i := 11) (by rfl)))) rfl
theorem w_12 : Jvm.Cond.methodLink "CycleGroupsLaw" (15 : Nat) ({ cls := "CycleGroups", name := "<init>", desc := "(I)V" } : Jvm.MethodName) ∈ tg := tg_of (List.mem_append_right _ (List.mem_append_left _ (List.mem_of_getElem? (l := tables_1_1) (i := 12) (by rfl)))) rfl
theorem w_13 : Jvm.Cond.instanceMethod ({ cls := "CycleGroups", name := "<init>", desc := "(I)V" } : Jvm.MethodName) ∈ tg := tg_of (List.mem_append_right _ (List.mem_append_left _ (List.mem_of_getElem? (l := tables_1_1) (i := 13) (by rfl)))) rfl
theorem w_14 : Jvm.Cond.code ({ cls := "CycleGroups", name := "<init>", desc := "(I)V" } : Jvm.MethodName) prog_1_method_1_code (2 : Nat) (Option.none : Option Jvm.ClassFile.FieldType) ∈ tg := tg_of (List.mem_append_right _ (List.mem_append_left _ (List.mem_of_getElem? (l := tables_1_1) (i := 14) (by rfl)))) rfl
theorem w_15 : Jvm.Cond.methodLink "CycleGroups" (1 : Nat) ({ cls := "java/lang/Object", name := "<init>", desc := "()V" } : Jvm.MethodName) ∈ tg := tg_of (List.mem_append_right _ (List.mem_append_left _ (List.mem_of_getElem? (l := tables_1_1) (i := 15) (by rfl)))) rfl
theorem w_16 : Jvm.Cond.instanceMethod ({ cls := "java/lang/Object", name := "<init>", desc := "()V" } : Jvm.MethodName) ∈ tg := tg_of (List.mem_append_right _ (List.mem_append_left _ (List.mem_of_getElem? (l := tables_1_1) (i := 16) (by rfl)))) rfl
theorem w_17 : Jvm.Cond.code ({ cls := "java/lang/Object", name := "<init>", desc := "()V" } : Jvm.MethodName) object_method_1_code (1 : Nat) (Option.none : Option Jvm.ClassFile.FieldType) ∈ tg := tg_of (List.mem_append_right _ (List.mem_append_left _ (List.mem_of_getElem? (l := tables_1_1) (i := 17) (by rfl)))) rfl
theorem w_18 : Jvm.Cond.methodLink "CycleGroups" (9 : Nat) ({ cls := "java/lang/Math", name := "min", desc := "(II)I" } : Jvm.MethodName) ∈ tg := tg_of (List.mem_append_right _ (List.mem_append_left _ (List.mem_of_getElem? (l := tables_1_1) (i := 18) (by rfl)))) rfl
theorem w_19 : Jvm.Cond.static ({ cls := "java/lang/Math", name := "min", desc := "(II)I" } : Jvm.MethodName) ∈ tg := tg_of (List.mem_append_right _ (List.mem_append_left _ (List.mem_of_getElem? (l := tables_1_1) (i := 19) (by rfl)))) rfl
theorem w_20 : Jvm.Cond.code ({ cls := "java/lang/Math", name := "min", desc := "(II)I" } : Jvm.MethodName) prog_8_method_69_code (2 : Nat) (Option.some Jvm.ClassFile.FieldType.int) ∈ tg := tg_of (List.mem_append_right _ (List.mem_append_left _ (List.mem_of_getElem? (l := tables_1_1) (i := 20) (by rfl)))) rfl
theorem w_21 : Jvm.Cond.methodLink "CycleGroups" (15 : Nat) ({ cls := "java/lang/Math", name := "max", desc := "(II)I" } : Jvm.MethodName) ∈ tg := tg_of (List.mem_append_right _ (List.mem_append_left _ (List.mem_of_getElem? (l := tables_1_1) (i := 21) (by rfl)))) rfl
theorem w_22 : Jvm.Cond.static ({ cls := "java/lang/Math", name := "max", desc := "(II)I" } : Jvm.MethodName) ∈ tg := tg_of (List.mem_append_right _ (List.mem_append_left _ (List.mem_of_getElem? (l := tables_1_1) (i := 22) (by rfl)))) rfl
theorem w_23 : Jvm.Cond.code ({ cls := "java/lang/Math", name := "max", desc := "(II)I" } : Jvm.MethodName) prog_8_method_65_code (2 : Nat) (Option.some Jvm.ClassFile.FieldType.int) ∈ tg := tg_of (List.mem_append_right _ (List.mem_append_left _ (List.mem_of_getElem? (l := tables_1_1) (i := 23) (by rfl)))) rfl
theorem w_24 : Jvm.Cond.classLink "CycleGroups" (22 : Nat) "[[I" ∈ tg := tg_of (List.mem_append_right _ (List.mem_append_left _ (List.mem_of_getElem? (l := tables_1_1) (i := 24) (by rfl)))) rfl
theorem w_25 : Jvm.Cond.arrayOver (Jvm.ClassFile.FieldType.array Jvm.ClassFile.FieldType.int) ∈ lw_tbl := List.mem_append_right _ (List.mem_append_left _ (List.mem_of_getElem? (l := tables_1_1) (i := 25) (by rfl)))
theorem w_26 : Jvm.Cond.classLink "CycleGroups" (30 : Nat) "CycleGroups$Partition" ∈ tg := tg_of (List.mem_append_right _ (List.mem_append_left _ (List.mem_of_getElem? (l := tables_1_1) (i := 26) (by rfl)))) rfl
theorem w_27 : Jvm.Cond.instantiable "CycleGroups$Partition" (1 : Nat) ∈ tg := tg_of (List.mem_append_right _ (List.mem_append_left _ (List.mem_of_getElem? (l := tables_1_1) (i := 27) (by rfl)))) rfl
theorem w_28 : Jvm.Cond.methodLink "CycleGroups" (32 : Nat) ({ cls := "CycleGroups$Partition", name := "<init>", desc := "(I)V" } : Jvm.MethodName) ∈ tg := tg_of (List.mem_append_right _ (List.mem_append_left _ (List.mem_of_getElem? (l := tables_1_1) (i := 28) (by rfl)))) rfl
theorem w_29 : Jvm.Cond.instanceMethod ({ cls := "CycleGroups$Partition", name := "<init>", desc := "(I)V" } : Jvm.MethodName) ∈ tg := tg_of (List.mem_append_right _ (List.mem_append_left _ (List.mem_of_getElem? (l := tables_1_1) (i := 29) (by rfl)))) rfl
theorem w_30 : Jvm.Cond.code ({ cls := "CycleGroups$Partition", name := "<init>", desc := "(I)V" } : Jvm.MethodName) prog_5_method_1_code (2 : Nat) (Option.none : Option Jvm.ClassFile.FieldType) ∈ tg := tg_of (List.mem_append_right _ (List.mem_append_left _ (List.mem_of_getElem? (l := tables_1_1) (i := 30) (by rfl)))) rfl
theorem w_31 : Jvm.Cond.methodLink "CycleGroups$Partition" (1 : Nat) ({ cls := "java/lang/Object", name := "<init>", desc := "()V" } : Jvm.MethodName) ∈ tg := tg_of (List.mem_append_right _ (List.mem_append_left _ (List.mem_of_getElem? (l := tables_1_1) (i := 31) (by rfl)))) rfl
theorem w_32 : Jvm.Cond.fieldLink "CycleGroups$Partition" (7 : Nat) "CycleGroups$Partition" "least" "[I" ∈ tg := tg_of (List.mem_append_right _ (List.mem_append_left _ (List.mem_of_getElem? (l := tables_1_1) (i := 32) (by rfl)))) rfl
theorem w_33 : Jvm.Cond.laysFinal "CycleGroups$Partition" "CycleGroups$Partition" "least" "[I" ∈ tg := tg_of (List.mem_append_right _ (List.mem_append_left _ (List.mem_of_getElem? (l := tables_1_1) (i := 33) (by rfl)))) rfl
theorem w_36 : Jvm.Cond.arrayClass Jvm.ClassFile.FieldType.int ∈ tg := tg_of (List.mem_append_right _ (List.mem_append_left _ (List.mem_of_getElem? (l := tables_1_1) (i := 36) (by rfl)))) rfl
theorem w_37 : Jvm.Cond.classLink "CycleGroups" (39 : Nat) "CycleGroups$Decimal" ∈ tg := tg_of (List.mem_append_right _ (List.mem_append_left _ (List.mem_of_getElem? (l := tables_1_1) (i := 37) (by rfl)))) rfl
theorem w_38 : Jvm.Cond.instantiable "CycleGroups$Decimal" (1 : Nat) ∈ tg := tg_of (List.mem_append_right _ (List.mem_append_left _ (List.mem_of_getElem? (l := tables_1_1) (i := 38) (by rfl)))) rfl
theorem w_39 : Jvm.Cond.methodLink "CycleGroups" (41 : Nat) ({ cls := "CycleGroups$Decimal", name := "<init>", desc := "()V" } : Jvm.MethodName) ∈ tg := tg_of (List.mem_append_right _ (List.mem_append_left _ (List.mem_of_getElem? (l := tables_1_1) (i := 39) (by rfl)))) rfl
theorem w_40 : Jvm.Cond.instanceMethod ({ cls := "CycleGroups$Decimal", name := "<init>", desc := "()V" } : Jvm.MethodName) ∈ tg := tg_of (List.mem_append_right _ (List.mem_append_left _ (List.mem_of_getElem? (l := tables_1_1) (i := 40) (by rfl)))) rfl
theorem w_41 : Jvm.Cond.code ({ cls := "CycleGroups$Decimal", name := "<init>", desc := "()V" } : Jvm.MethodName) prog_3_method_1_code (1 : Nat) (Option.none : Option Jvm.ClassFile.FieldType) ∈ tg := tg_of (List.mem_append_right _ (List.mem_append_left _ (List.mem_of_getElem? (l := tables_1_1) (i := 41) (by rfl)))) rfl
theorem w_42 : Jvm.Cond.methodLink "CycleGroups$Decimal" (1 : Nat) ({ cls := "java/lang/Object", name := "<init>", desc := "()V" } : Jvm.MethodName) ∈ tg := tg_of (List.mem_append_right _ (List.mem_append_left _ (List.mem_of_getElem? (l := tables_1_1) (i := 42) (by rfl)))) rfl
theorem w_43 : Jvm.Cond.fieldLink "CycleGroups$Decimal" (9 : Nat) "CycleGroups$Decimal" "digits" "[I" ∈ tg := tg_of (List.mem_append_right _ (List.mem_append_left _ (List.mem_of_getElem? (l := tables_1_1) (i := 43) (by rfl)))) rfl
theorem w_44 : Jvm.Cond.laysFinal "CycleGroups$Decimal" "CycleGroups$Decimal" "digits" "[I" ∈ tg := tg_of (List.mem_append_right _ (List.mem_append_left _ (List.mem_of_getElem? (l := tables_1_1) (i := 44) (by rfl)))) rfl
theorem w_47 : Jvm.Cond.fieldLink "CycleGroups" (18 : Nat) "CycleGroups" "places" "I" ∈ tg := tg_of (List.mem_append_right _ (List.mem_append_left _ (List.mem_of_getElem? (l := tables_1_1) (i := 47) (by rfl)))) rfl
theorem w_48 : Jvm.Cond.fieldLink "CycleGroups" (24 : Nat) "CycleGroups" "moves" "[[I" ∈ tg := tg_of (List.mem_append_right _ (List.mem_append_left _ (List.mem_of_getElem? (l := tables_1_1) (i := 48) (by rfl)))) rfl
theorem w_49 : Jvm.Cond.fieldLink "CycleGroups" (46 : Nat) "CycleGroups" "movesMade" "I" ∈ tg := tg_of (List.mem_append_right _ (List.mem_append_left _ (List.mem_of_getElem? (l := tables_1_1) (i := 49) (by rfl)))) rfl
theorem w_50 : Jvm.Cond.fieldLink "CycleGroups" (27 : Nat) "CycleGroups" "states" "[[I" ∈ tg := tg_of (List.mem_append_right _ (List.mem_append_left _ (List.mem_of_getElem? (l := tables_1_1) (i := 50) (by rfl)))) rfl
theorem w_51 : Jvm.Cond.fieldLink "CycleGroups" (104 : Nat) "CycleGroups" "statesMade" "I" ∈ tg := tg_of (List.mem_append_right _ (List.mem_append_left _ (List.mem_of_getElem? (l := tables_1_1) (i := 51) (by rfl)))) rfl
theorem w_52 : Jvm.Cond.fieldLink "CycleGroups" (35 : Nat) "CycleGroups" "partition" "LCycleGroups$Partition;" ∈ tg := tg_of (List.mem_append_right _ (List.mem_append_left _ (List.mem_of_getElem? (l := tables_1_1) (i := 52) (by rfl)))) rfl
theorem w_53 : Jvm.Cond.fieldLink "CycleGroups" (42 : Nat) "CycleGroups" "decimal" "LCycleGroups$Decimal;" ∈ tg := tg_of (List.mem_append_right _ (List.mem_append_left _ (List.mem_of_getElem? (l := tables_1_1) (i := 53) (by rfl)))) rfl
theorem w_54 : Jvm.Cond.fieldLink "CycleGroups" (130 : Nat) "CycleGroups" "chain" "LCycleGroups$Chain;" ∈ tg := tg_of (List.mem_append_right _ (List.mem_append_left _ (List.mem_of_getElem? (l := tables_1_1) (i := 54) (by rfl)))) rfl
theorem w_55 : Jvm.Cond.fieldLink "CycleGroups" (60 : Nat) "CycleGroups" "chainIsStale" "Z" ∈ tg := tg_of (List.mem_append_right _ (List.mem_append_left _ (List.mem_of_getElem? (l := tables_1_1) (i := 55) (by rfl)))) rfl
theorem w_56 : Jvm.Cond.laysFinal "CycleGroups" "CycleGroups" "places" "I" ∈ tg := tg_of (List.mem_append_right _ (List.mem_append_left _ (List.mem_of_getElem? (l := tables_1_1) (i := 56) (by rfl)))) rfl
theorem w_58 : Jvm.Cond.laysFinal "CycleGroups" "CycleGroups" "moves" "[[I" ∈ tg := tg_of (List.mem_append_right _ (List.mem_append_left _ (List.mem_of_getElem? (l := tables_1_1) (i := 58) (by rfl)))) rfl
theorem w_60 : Jvm.Cond.lays "CycleGroups" "CycleGroups" "movesMade" "I" ∈ tg := tg_of (List.mem_append_right _ (List.mem_append_left _ (List.mem_of_getElem? (l := tables_1_1) (i := 60) (by rfl)))) rfl
theorem w_62 : Jvm.Cond.laysFinal "CycleGroups" "CycleGroups" "states" "[[I" ∈ tg := tg_of (List.mem_append_right _ (List.mem_append_left _ (List.mem_of_getElem? (l := tables_1_1) (i := 62) (by rfl)))) rfl
theorem w_64 : Jvm.Cond.lays "CycleGroups" "CycleGroups" "statesMade" "I" ∈ tg := tg_of (List.mem_append_right _ (List.mem_append_left _ (List.mem_of_getElem? (l := tables_1_1) (i := 64) (by rfl)))) rfl
theorem w_66 : Jvm.Cond.laysFinal "CycleGroups" "CycleGroups" "partition" "LCycleGroups$Partition;" ∈ tg := tg_of (List.mem_append_right _ (List.mem_append_left _ (List.mem_of_getElem? (l := tables_1_1) (i := 66) (by rfl)))) rfl
theorem w_68 : Jvm.Cond.laysFinal "CycleGroups" "CycleGroups" "decimal" "LCycleGroups$Decimal;" ∈ tg := tg_of (List.mem_append_right _ (List.mem_append_left _ (List.mem_of_getElem? (l := tables_1_1) (i := 68) (by rfl)))) rfl
theorem w_70 : Jvm.Cond.lays "CycleGroups" "CycleGroups" "chain" "LCycleGroups$Chain;" ∈ tg := tg_of (List.mem_append_right _ (List.mem_append_left _ (List.mem_of_getElem? (l := tables_1_1) (i := 70) (by rfl)))) rfl
theorem w_72 : Jvm.Cond.lays "CycleGroups" "CycleGroups" "chainIsStale" "Z" ∈ tg := tg_of (List.mem_append_right _ (List.mem_append_left _ (List.mem_of_getElem? (l := tables_1_1) (i := 72) (by rfl)))) rfl
theorem w_75 : Jvm.Cond.methodLink "CycleGroupsLaw" (21 : Nat) ({ cls := "CycleGroups", name := "move", desc := "()I" } : Jvm.MethodName) ∈ tg := tg_of (List.mem_append_right _ (List.mem_append_left _ (List.mem_of_getElem? (l := tables_1_1) (i := 75) (by rfl)))) rfl
theorem w_76 : Jvm.Cond.instanceMethod ({ cls := "CycleGroups", name := "move", desc := "()I" } : Jvm.MethodName) ∈ tg := tg_of (List.mem_append_right _ (List.mem_append_left _ (List.mem_of_getElem? (l := tables_1_1) (i := 76) (by rfl)))) rfl
theorem w_77 : Jvm.Cond.selects "CycleGroups" ({ cls := "CycleGroups", name := "move", desc := "()I" } : Jvm.MethodName) ({ cls := "CycleGroups", name := "move", desc := "()I" } : Jvm.MethodName) ∈ tg := tg_of (List.mem_append_right _ (List.mem_append_left _ (List.mem_of_getElem? (l := tables_1_1) (i := 77) (by rfl)))) rfl
theorem w_78 : Jvm.Cond.code ({ cls := "CycleGroups", name := "move", desc := "()I" } : Jvm.MethodName) prog_1_method_2_code (1 : Nat) (Option.some Jvm.ClassFile.FieldType.int) ∈ tg := tg_of (List.mem_append_right _ (List.mem_append_left _ (List.mem_of_getElem? (l := tables_1_1) (i := 78) (by rfl)))) rfl
theorem w_79 : Jvm.Cond.methodLink "CycleGroups" (49 : Nat) ({ cls := "CycleGroups", name := "leaveAll", desc := "([I)V" } : Jvm.MethodName) ∈ tg := tg_of (List.mem_append_right _ (List.mem_append_left _ (List.mem_of_getElem? (l := tables_1_1) (i := 79) (by rfl)))) rfl
theorem w_80 : Jvm.Cond.static ({ cls := "CycleGroups", name := "leaveAll", desc := "([I)V" } : Jvm.MethodName) ∈ tg := tg_of (List.mem_append_right _ (List.mem_append_left _ (List.mem_of_getElem? (l := tables_1_1) (i := 80) (by rfl)))) rfl
theorem w_81 : Jvm.Cond.code ({ cls := "CycleGroups", name := "leaveAll", desc := "([I)V" } : Jvm.MethodName) prog_1_method_25_code (2 : Nat) (Option.none : Option Jvm.ClassFile.FieldType) ∈ tg := tg_of (List.mem_append_right _ (List.mem_append_left _ (List.mem_of_getElem? (l := tables_1_1) (i := 81) (by rfl)))) rfl
theorem w_82 : Jvm.Cond.methodLink "CycleGroupsLaw" (26 : Nat) ({ cls := "CycleGroups", name := "cycle", desc := "(III)Z" } : Jvm.MethodName) ∈ tg := tg_of (List.mem_append_right _ (List.mem_append_left _ (List.mem_of_getElem? (l := tables_1_1) (i := 82) (by rfl)))) rfl
theorem w_83 : Jvm.Cond.instanceMethod ({ cls := "CycleGroups", name := "cycle", desc := "(III)Z" } : Jvm.MethodName) ∈ tg := tg_of (List.mem_append_right _ (List.mem_append_left _ (List.mem_of_getElem? (l := tables_1_1) (i := 83) (by rfl)))) rfl
theorem w_84 : Jvm.Cond.selects "CycleGroups" ({ cls := "CycleGroups", name := "cycle", desc := "(III)Z" } : Jvm.MethodName) ({ cls := "CycleGroups", name := "cycle", desc := "(III)Z" } : Jvm.MethodName) ∈ tg := tg_of (List.mem_append_right _ (List.mem_append_left _ (List.mem_of_getElem? (l := tables_1_1) (i := 84) (by rfl)))) rfl
theorem w_85 : Jvm.Cond.code ({ cls := "CycleGroups", name := "cycle", desc := "(III)Z" } : Jvm.MethodName) prog_1_method_3_code (5 : Nat) (Option.some Jvm.ClassFile.FieldType.boolean) ∈ tg := tg_of (List.mem_append_right _ (List.mem_append_left _ (List.mem_of_getElem? (l := tables_1_1) (i := 85) (by rfl)))) rfl
theorem w_86 : Jvm.Cond.methodLink "CycleGroups" (53 : Nat) ({ cls := "CycleGroups", name := "isMove", desc := "(I)Z" } : Jvm.MethodName) ∈ tg := tg_of (List.mem_append_right _ (List.mem_append_left _ (List.mem_of_getElem? (l := tables_1_1) (i := 86) (by rfl)))) rfl
theorem w_88 : Jvm.Cond.instanceMethod ({ cls := "CycleGroups", name := "isMove", desc := "(I)Z" } : Jvm.MethodName) ∈ tg := tg_of (List.mem_append_right _ (List.mem_append_left _ (List.mem_of_getElem? (l := tables_1_1) (i := 88) (by rfl)))) rfl
theorem w_89 : Jvm.Cond.code ({ cls := "CycleGroups", name := "isMove", desc := "(I)Z" } : Jvm.MethodName) prog_1_method_21_code (2 : Nat) (Option.some Jvm.ClassFile.FieldType.boolean) ∈ tg := tg_of (List.mem_append_right _ (List.mem_append_left _ (List.mem_of_getElem? (l := tables_1_1) (i := 89) (by rfl)))) rfl
theorem w_90 : Jvm.Cond.methodLink "CycleGroups" (57 : Nat) ({ cls := "CycleGroups", name := "isPlace", desc := "(I)Z" } : Jvm.MethodName) ∈ tg := tg_of (List.mem_append_right _ (List.mem_append_left _ (List.mem_of_getElem? (l := tables_1_1) (i := 90) (by rfl)))) rfl
theorem w_92 : Jvm.Cond.instanceMethod ({ cls := "CycleGroups", name := "isPlace", desc := "(I)Z" } : Jvm.MethodName) ∈ tg := tg_of (List.mem_append_right _ (List.mem_append_left _ (List.mem_of_getElem? (l := tables_1_1) (i := 92) (by rfl)))) rfl
theorem w_93 : Jvm.Cond.code ({ cls := "CycleGroups", name := "isPlace", desc := "(I)Z" } : Jvm.MethodName) prog_1_method_20_code (2 : Nat) (Option.some Jvm.ClassFile.FieldType.boolean) ∈ tg := tg_of (List.mem_append_right _ (List.mem_append_left _ (List.mem_of_getElem? (l := tables_1_1) (i := 93) (by rfl)))) rfl
theorem w_94 : Jvm.Cond.methodLink "CycleGroupsLaw" (31 : Nat) ({ cls := "CycleGroups", name := "run", desc := "()I" } : Jvm.MethodName) ∈ tg := tg_of (List.mem_append_right _ (List.mem_append_left _ (List.mem_of_getElem? (l := tables_1_1) (i := 94) (by rfl)))) rfl
theorem w_95 : Jvm.Cond.instanceMethod ({ cls := "CycleGroups", name := "run", desc := "()I" } : Jvm.MethodName) ∈ tg := tg_of (List.mem_append_right _ (List.mem_append_left _ (List.mem_of_getElem? (l := tables_1_1) (i := 95) (by rfl)))) rfl
theorem w_96 : Jvm.Cond.selects "CycleGroups" ({ cls := "CycleGroups", name := "run", desc := "()I" } : Jvm.MethodName) ({ cls := "CycleGroups", name := "run", desc := "()I" } : Jvm.MethodName) ∈ tg := tg_of (List.mem_append_right _ (List.mem_append_left _ (List.mem_of_getElem? (l := tables_1_1) (i := 96) (by rfl)))) rfl
theorem w_97 : Jvm.Cond.code ({ cls := "CycleGroups", name := "run", desc := "()I" } : Jvm.MethodName) prog_1_method_4_code (4 : Nat) (Option.some Jvm.ClassFile.FieldType.int) ∈ tg := tg_of (List.mem_append_right _ (List.mem_append_left _ (List.mem_of_getElem? (l := tables_1_1) (i := 97) (by rfl)))) rfl
theorem w_98 : Jvm.Cond.methodLink "CycleGroups" (64 : Nat) ({ cls := "CycleGroups", name := "freshChain", desc := "()LCycleGroups$Chain;" } : Jvm.MethodName) ∈ tg := tg_of (List.mem_append_right _ (List.mem_append_left _ (List.mem_of_getElem? (l := tables_1_1) (i := 98) (by rfl)))) rfl
theorem w_100 : Jvm.Cond.instanceMethod ({ cls := "CycleGroups", name := "freshChain", desc := "()LCycleGroups$Chain;" } : Jvm.MethodName) ∈ tg := tg_of (List.mem_append_right _ (List.mem_append_left _ (List.mem_of_getElem? (l := tables_1_1) (i := 100) (by rfl)))) rfl
theorem w_101 : Jvm.Cond.code ({ cls := "CycleGroups", name := "freshChain", desc := "()LCycleGroups$Chain;" } : Jvm.MethodName) prog_1_method_23_code (1 : Nat) (Option.some (Jvm.ClassFile.FieldType.object "CycleGroups$Chain")) ∈ tg := tg_of (List.mem_append_right _ (List.mem_append_left _ (List.mem_of_getElem? (l := tables_1_1) (i := 101) (by rfl)))) rfl
theorem w_102 : Jvm.Cond.classLink "CycleGroups" (69 : Nat) "CycleGroups$Chain" ∈ tg := tg_of (List.mem_append_right _ (List.mem_append_left _ (List.mem_of_getElem? (l := tables_1_1) (i := 102) (by rfl)))) rfl
theorem w_103 : Jvm.Cond.instantiable "CycleGroups$Chain" (3 : Nat) ∈ tg := tg_of (List.mem_append_right _ (List.mem_append_left _ (List.mem_of_getElem? (l := tables_1_1) (i := 103) (by rfl)))) rfl
theorem w_104 : Jvm.Cond.methodLink "CycleGroups" (134 : Nat) ({ cls := "CycleGroups$Chain", name := "<init>", desc := "(I)V" } : Jvm.MethodName) ∈ tg := tg_of (List.mem_append_right _ (List.mem_append_left _ (List.mem_of_getElem? (l := tables_1_1) (i := 104) (by rfl)))) rfl
theorem w_105 : Jvm.Cond.instanceMethod ({ cls := "CycleGroups$Chain", name := "<init>", desc := "(I)V" } : Jvm.MethodName) ∈ tg := tg_of (List.mem_append_right _ (List.mem_append_left _ (List.mem_of_getElem? (l := tables_1_1) (i := 105) (by rfl)))) rfl
theorem w_106 : Jvm.Cond.code ({ cls := "CycleGroups$Chain", name := "<init>", desc := "(I)V" } : Jvm.MethodName) prog_2_method_1_code (3 : Nat) (Option.none : Option Jvm.ClassFile.FieldType) ∈ tg := tg_of (List.mem_append_right _ (List.mem_append_left _ (List.mem_of_getElem? (l := tables_1_1) (i := 106) (by rfl)))) rfl
theorem w_107 : Jvm.Cond.methodLink "CycleGroups$Chain" (1 : Nat) ({ cls := "java/lang/Object", name := "<init>", desc := "()V" } : Jvm.MethodName) ∈ tg := tg_of (List.mem_append_right _ (List.mem_append_left _ (List.mem_of_getElem? (l := tables_1_1) (i := 107) (by rfl)))) rfl
theorem w_108 : Jvm.Cond.classLink "CycleGroups$Chain" (13 : Nat) "CycleGroups$Link" ∈ tg := tg_of (List.mem_append_right _ (List.mem_append_left _ (List.mem_of_getElem? (l := tables_1_1) (i := 108) (by rfl)))) rfl
theorem w_109 : Jvm.Cond.arrayOver (Jvm.ClassFile.FieldType.object "CycleGroups$Link") ∈ lw_tbl := List.mem_append_right _ (List.mem_append_left _ (List.mem_of_getElem? (l := tables_1_1) (i := 109) (by rfl)))
theorem w_110 : Jvm.Cond.instantiable "CycleGroups$Link" (7 : Nat) ∈ tg := tg_of (List.mem_append_right _ (List.mem_append_left _ (List.mem_of_getElem? (l := tables_1_1) (i := 110) (by rfl)))) rfl
theorem w_111 : Jvm.Cond.methodLink "CycleGroups$Chain" (23 : Nat) ({ cls := "CycleGroups$Link", name := "<init>", desc := "(II)V" } : Jvm.MethodName) ∈ tg := tg_of (List.mem_append_right _ (List.mem_append_left _ (List.mem_of_getElem? (l := tables_1_1) (i := 111) (by rfl)))) rfl
theorem w_112 : Jvm.Cond.instanceMethod ({ cls := "CycleGroups$Link", name := "<init>", desc := "(II)V" } : Jvm.MethodName) ∈ tg := tg_of (List.mem_append_right _ (List.mem_append_left _ (List.mem_of_getElem? (l := tables_1_1) (i := 112) (by rfl)))) rfl
theorem w_113 : Jvm.Cond.code ({ cls := "CycleGroups$Link", name := "<init>", desc := "(II)V" } : Jvm.MethodName) prog_4_method_1_code (5 : Nat) (Option.none : Option Jvm.ClassFile.FieldType) ∈ tg := tg_of (List.mem_append_right _ (List.mem_append_left _ (List.mem_of_getElem? (l := tables_1_1) (i := 113) (by rfl)))) rfl
theorem w_114 : Jvm.Cond.methodLink "CycleGroups$Link" (1 : Nat) ({ cls := "java/lang/Object", name := "<init>", desc := "()V" } : Jvm.MethodName) ∈ tg := tg_of (List.mem_append_right _ (List.mem_append_left _ (List.mem_of_getElem? (l := tables_1_1) (i := 114) (by rfl)))) rfl
theorem w_115 : Jvm.Cond.classLink "CycleGroups$Link" (7 : Nat) "[[I" ∈ tg := tg_of (List.mem_append_right _ (List.mem_append_left _ (List.mem_of_getElem? (l := tables_1_1) (i := 115) (by rfl)))) rfl
theorem w_116 : Jvm.Cond.methodLink "CycleGroups$Link" (27 : Nat) ({ cls := "java/util/Arrays", name := "fill", desc := "([II)V" } : Jvm.MethodName) ∈ tg := tg_of (List.mem_append_right _ (List.mem_append_left _ (List.mem_of_getElem? (l := tables_1_1) (i := 116) (by rfl)))) rfl
theorem w_117 : Jvm.Cond.static ({ cls := "java/util/Arrays", name := "fill", desc := "([II)V" } : Jvm.MethodName) ∈ tg := tg_of (List.mem_append_right _ (List.mem_append_left _ (List.mem_of_getElem? (l := tables_1_1) (i := 117) (by rfl)))) rfl
theorem w_118 : Jvm.Cond.code ({ cls := "java/util/Arrays", name := "fill", desc := "([II)V" } : Jvm.MethodName) prog_10_method_103_code (4 : Nat) (Option.none : Option Jvm.ClassFile.FieldType) ∈ tg := tg_of (List.mem_append_right _ (List.mem_append_left _ (List.mem_of_getElem? (l := tables_1_1) (i := 118) (by rfl)))) rfl
theorem w_119 : Jvm.Cond.methodLinkNest "CycleGroups$Link" (37 : Nat) ({ cls := "CycleGroups", name := "leaveAll", desc := "([I)V" } : Jvm.MethodName) "CycleGroups" ∈ lw_tbl := List.mem_append_right _ (List.mem_append_left _ (List.mem_of_getElem? (l := tables_1_1) (i := 119) (by rfl)))
theorem w_120 : Jvm.Cond.fieldLink "CycleGroups$Link" (9 : Nat) "CycleGroups$Link" "generators" "[[I" ∈ tg := tg_of (List.mem_append_right _ (List.mem_append_left _ (List.mem_of_getElem? (l := tables_1_1) (i := 120) (by rfl)))) rfl
theorem w_121 : Jvm.Cond.fieldLink "CycleGroups$Link" (43 : Nat) "CycleGroups$Link" "generatorsHeld" "I" ∈ tg := tg_of (List.mem_append_right _ (List.mem_append_left _ (List.mem_of_getElem? (l := tables_1_1) (i := 121) (by rfl)))) rfl
theorem w_122 : Jvm.Cond.fieldLink "CycleGroups$Link" (14 : Nat) "CycleGroups$Link" "paired" "[I" ∈ tg := tg_of (List.mem_append_right _ (List.mem_append_left _ (List.mem_of_getElem? (l := tables_1_1) (i := 122) (by rfl)))) rfl
theorem w_123 : Jvm.Cond.fieldLink "CycleGroups$Link" (18 : Nat) "CycleGroups$Link" "spreadPlaces" "[I" ∈ tg := tg_of (List.mem_append_right _ (List.mem_append_left _ (List.mem_of_getElem? (l := tables_1_1) (i := 123) (by rfl)))) rfl
theorem w_124 : Jvm.Cond.fieldLink "CycleGroups$Link" (33 : Nat) "CycleGroups$Link" "spreadHeld" "I" ∈ tg := tg_of (List.mem_append_right _ (List.mem_append_left _ (List.mem_of_getElem? (l := tables_1_1) (i := 124) (by rfl)))) rfl
theorem w_125 : Jvm.Cond.fieldLink "CycleGroups$Link" (21 : Nat) "CycleGroups$Link" "indexInSpread" "[I" ∈ tg := tg_of (List.mem_append_right _ (List.mem_append_left _ (List.mem_of_getElem? (l := tables_1_1) (i := 125) (by rfl)))) rfl
theorem w_126 : Jvm.Cond.fieldLink "CycleGroups$Link" (24 : Nat) "CycleGroups$Link" "waysBack" "[[I" ∈ tg := tg_of (List.mem_append_right _ (List.mem_append_left _ (List.mem_of_getElem? (l := tables_1_1) (i := 126) (by rfl)))) rfl
theorem w_127 : Jvm.Cond.laysFinal "CycleGroups$Link" "CycleGroups$Link" "generators" "[[I" ∈ tg := tg_of (List.mem_append_right _ (List.mem_append_left _ (List.mem_of_getElem? (l := tables_1_1) (i := 127) (by rfl)))) rfl
theorem w_129 : Jvm.Cond.lays "CycleGroups$Link" "CycleGroups$Link" "generatorsHeld" "I" ∈ tg := tg_of (List.mem_append_right _ (List.mem_append_left _ (List.mem_of_getElem? (l := tables_1_1) (i := 129) (by rfl)))) rfl
theorem w_131 : Jvm.Cond.laysFinal "CycleGroups$Link" "CycleGroups$Link" "paired" "[I" ∈ tg := tg_of (List.mem_append_right _ (List.mem_append_left _ (List.mem_of_getElem? (l := tables_1_1) (i := 131) (by rfl)))) rfl
theorem w_133 : Jvm.Cond.laysFinal "CycleGroups$Link" "CycleGroups$Link" "spreadPlaces" "[I" ∈ tg := tg_of (List.mem_append_right _ (List.mem_append_left _ (List.mem_of_getElem? (l := tables_1_1) (i := 133) (by rfl)))) rfl
theorem w_135 : Jvm.Cond.lays "CycleGroups$Link" "CycleGroups$Link" "spreadHeld" "I" ∈ tg := tg_of (List.mem_append_right _ (List.mem_append_left _ (List.mem_of_getElem? (l := tables_1_1) (i := 135) (by rfl)))) rfl
theorem w_137 : Jvm.Cond.laysFinal "CycleGroups$Link" "CycleGroups$Link" "indexInSpread" "[I" ∈ tg := tg_of (List.mem_append_right _ (List.mem_append_left _ (List.mem_of_getElem? (l := tables_1_1) (i := 137) (by rfl)))) rfl
theorem w_139 : Jvm.Cond.laysFinal "CycleGroups$Link" "CycleGroups$Link" "waysBack" "[[I" ∈ tg := tg_of (List.mem_append_right _ (List.mem_append_left _ (List.mem_of_getElem? (l := tables_1_1) (i := 139) (by rfl)))) rfl
theorem w_142 : Jvm.Cond.fieldLink "CycleGroups$Chain" (7 : Nat) "CycleGroups$Chain" "places" "I" ∈ tg := tg_of (List.mem_append_right _ (List.mem_append_left _ (List.mem_of_getElem? (l := tables_1_1) (i := 142) (by rfl)))) rfl
theorem w_143 : Jvm.Cond.fieldLink "CycleGroups$Chain" (15 : Nat) "CycleGroups$Chain" "links" "[LCycleGroups$Link;" ∈ tg := tg_of (List.mem_append_right _ (List.mem_append_left _ (List.mem_of_getElem? (l := tables_1_1) (i := 143) (by rfl)))) rfl
theorem w_144 : Jvm.Cond.fieldLink "CycleGroups$Chain" (19 : Nat) "CycleGroups$Chain" "work" "[I" ∈ tg := tg_of (List.mem_append_right _ (List.mem_append_left _ (List.mem_of_getElem? (l := tables_1_1) (i := 144) (by rfl)))) rfl
theorem w_145 : Jvm.Cond.laysFinal "CycleGroups$Chain" "CycleGroups$Chain" "places" "I" ∈ tg := tg_of (List.mem_append_right _ (List.mem_append_left _ (List.mem_of_getElem? (l := tables_1_1) (i := 145) (by rfl)))) rfl
theorem w_147 : Jvm.Cond.laysFinal "CycleGroups$Chain" "CycleGroups$Chain" "links" "[LCycleGroups$Link;" ∈ tg := tg_of (List.mem_append_right _ (List.mem_append_left _ (List.mem_of_getElem? (l := tables_1_1) (i := 147) (by rfl)))) rfl
theorem w_149 : Jvm.Cond.laysFinal "CycleGroups$Chain" "CycleGroups$Chain" "work" "[I" ∈ tg := tg_of (List.mem_append_right _ (List.mem_append_left _ (List.mem_of_getElem? (l := tables_1_1) (i := 149) (by rfl)))) rfl
theorem w_152 : Jvm.Cond.methodLink "CycleGroups" (135 : Nat) ({ cls := "CycleGroups$Chain", name := "build", desc := "([[II)V" } : Jvm.MethodName) ∈ tg := tg_of (List.mem_append_right _ (List.mem_append_left _ (List.mem_of_getElem? (l := tables_1_1) (i := 152) (by rfl)))) rfl
theorem w_153 : Jvm.Cond.instanceMethod ({ cls := "CycleGroups$Chain", name := "build", desc := "([[II)V" } : Jvm.MethodName) ∈ tg := tg_of (List.mem_append_right _ (List.mem_append_left _ (List.mem_of_getElem? (l := tables_1_1) (i := 153) (by rfl)))) rfl
theorem w_154 : Jvm.Cond.selects "CycleGroups$Chain" ({ cls := "CycleGroups$Chain", name := "build", desc := "([[II)V" } : Jvm.MethodName) ({ cls := "CycleGroups$Chain", name := "build", desc := "([[II)V" } : Jvm.MethodName) ∈ tg := tg_of (List.mem_append_right _ (List.mem_append_left _ (List.mem_of_getElem? (l := tables_1_1) (i := 154) (by rfl)))) rfl
theorem w_155 : Jvm.Cond.code ({ cls := "CycleGroups$Chain", name := "build", desc := "([[II)V" } : Jvm.MethodName) prog_2_method_2_code (4 : Nat) (Option.none : Option Jvm.ClassFile.FieldType) ∈ tg := tg_of (List.mem_append_right _ (List.mem_append_left _ (List.mem_of_getElem? (l := tables_1_1) (i := 155) (by rfl)))) rfl
theorem w_156 : Jvm.Cond.methodLink "CycleGroups$Chain" (26 : Nat) ({ cls := "CycleGroups$Link", name := "clear", desc := "()V" } : Jvm.MethodName) ∈ tg := tg_of (List.mem_append_right _ (List.mem_append_left _ (List.mem_of_getElem? (l := tables_1_1) (i := 156) (by rfl)))) rfl
theorem w_157 : Jvm.Cond.instanceMethod ({ cls := "CycleGroups$Link", name := "clear", desc := "()V" } : Jvm.MethodName) ∈ tg := tg_of (List.mem_append_right _ (List.mem_append_left _ (List.mem_of_getElem? (l := tables_1_1) (i := 157) (by rfl)))) rfl
theorem w_158 : Jvm.Cond.selects "CycleGroups$Link" ({ cls := "CycleGroups$Link", name := "clear", desc := "()V" } : Jvm.MethodName) ({ cls := "CycleGroups$Link", name := "clear", desc := "()V" } : Jvm.MethodName) ∈ tg := tg_of (List.mem_append_right _ (List.mem_append_left _ (List.mem_of_getElem? (l := tables_1_1) (i := 158) (by rfl)))) rfl
theorem w_159 : Jvm.Cond.code ({ cls := "CycleGroups$Link", name := "clear", desc := "()V" } : Jvm.MethodName) prog_4_method_2_code (2 : Nat) (Option.none : Option Jvm.ClassFile.FieldType) ∈ tg := tg_of (List.mem_append_right _ (List.mem_append_left _ (List.mem_of_getElem? (l := tables_1_1) (i := 159) (by rfl)))) rfl
theorem w_160 : Jvm.Cond.methodLink "CycleGroups$Chain" (29 : Nat) ({ cls := "CycleGroups$Chain", name := "failingPlace", desc := "([I)I" } : Jvm.MethodName) ∈ tg := tg_of (List.mem_append_right _ (List.mem_append_left _ (List.mem_of_getElem? (l := tables_1_1) (i := 160) (by rfl)))) rfl
theorem w_161 : Jvm.Cond.instanceMethod ({ cls := "CycleGroups$Chain", name := "failingPlace", desc := "([I)I" } : Jvm.MethodName) ∈ tg := tg_of (List.mem_append_right _ (List.mem_append_left _ (List.mem_of_getElem? (l := tables_1_1) (i := 161) (by rfl)))) rfl
theorem w_162 : Jvm.Cond.selects "CycleGroups$Chain" ({ cls := "CycleGroups$Chain", name := "failingPlace", desc := "([I)I" } : Jvm.MethodName) ({ cls := "CycleGroups$Chain", name := "failingPlace", desc := "([I)I" } : Jvm.MethodName) ∈ tg := tg_of (List.mem_append_right _ (List.mem_append_left _ (List.mem_of_getElem? (l := tables_1_1) (i := 162) (by rfl)))) rfl
theorem w_163 : Jvm.Cond.code ({ cls := "CycleGroups$Chain", name := "failingPlace", desc := "([I)I" } : Jvm.MethodName) prog_2_method_4_code (2 : Nat) (Option.some Jvm.ClassFile.FieldType.int) ∈ tg := tg_of (List.mem_append_right _ (List.mem_append_left _ (List.mem_of_getElem? (l := tables_1_1) (i := 163) (by rfl)))) rfl
theorem w_164 : Jvm.Cond.methodLink "CycleGroups$Chain" (44 : Nat) ({ cls := "java/lang/System", name := "arraycopy", desc := "(Ljava/lang/Object;ILjava/lang/Object;II)V" } : Jvm.MethodName) ∈ tg := tg_of (List.mem_append_right _ (List.mem_append_left _ (List.mem_of_getElem? (l := tables_1_1) (i := 164) (by rfl)))) rfl
theorem w_165 : Jvm.Cond.static ({ cls := "java/lang/System", name := "arraycopy", desc := "(Ljava/lang/Object;ILjava/lang/Object;II)V" } : Jvm.MethodName) ∈ tg := tg_of (List.mem_append_right _ (List.mem_append_left _ (List.mem_of_getElem? (l := tables_1_1) (i := 165) (by rfl)))) rfl
theorem w_166 : Jvm.Cond.native ({ cls := "java/lang/System", name := "arraycopy", desc := "(Ljava/lang/Object;ILjava/lang/Object;II)V" } : Jvm.MethodName) ∈ tg := tg_of (List.mem_append_right _ (List.mem_append_left _ (List.mem_of_getElem? (l := tables_1_1) (i := 166) (by rfl)))) rfl
theorem w_167 : Jvm.Cond.methodLink "CycleGroups$Chain" (50 : Nat) ({ cls := "CycleGroups$Chain", name := "siftWork", desc := "(I)I" } : Jvm.MethodName) ∈ tg := tg_of (List.mem_append_right _ (List.mem_append_left _ (List.mem_of_getElem? (l := tables_1_1) (i := 167) (by rfl)))) rfl
theorem w_169 : Jvm.Cond.instanceMethod ({ cls := "CycleGroups$Chain", name := "siftWork", desc := "(I)I" } : Jvm.MethodName) ∈ tg := tg_of (List.mem_append_right _ (List.mem_append_left _ (List.mem_of_getElem? (l := tables_1_1) (i := 169) (by rfl)))) rfl
theorem w_170 : Jvm.Cond.code ({ cls := "CycleGroups$Chain", name := "siftWork", desc := "(I)I" } : Jvm.MethodName) prog_2_method_5_code (3 : Nat) (Option.some Jvm.ClassFile.FieldType.int) ∈ tg := tg_of (List.mem_append_right _ (List.mem_append_left _ (List.mem_of_getElem? (l := tables_1_1) (i := 170) (by rfl)))) rfl
theorem w_171 : Jvm.Cond.methodLink "CycleGroups$Chain" (54 : Nat) ({ cls := "CycleGroups$Link", name := "undo", desc := "([I)Z" } : Jvm.MethodName) ∈ tg := tg_of (List.mem_append_right _ (List.mem_append_left _ (List.mem_of_getElem? (l := tables_1_1) (i := 171) (by rfl)))) rfl
theorem w_172 : Jvm.Cond.instanceMethod ({ cls := "CycleGroups$Link", name := "undo", desc := "([I)Z" } : Jvm.MethodName) ∈ tg := tg_of (List.mem_append_right _ (List.mem_append_left _ (List.mem_of_getElem? (l := tables_1_1) (i := 172) (by rfl)))) rfl
theorem w_173 : Jvm.Cond.selects "CycleGroups$Link" ({ cls := "CycleGroups$Link", name := "undo", desc := "([I)Z" } : Jvm.MethodName) ({ cls := "CycleGroups$Link", name := "undo", desc := "([I)Z" } : Jvm.MethodName) ∈ tg := tg_of (List.mem_append_right _ (List.mem_append_left _ (List.mem_of_getElem? (l := tables_1_1) (i := 173) (by rfl)))) rfl
theorem w_174 : Jvm.Cond.code ({ cls := "CycleGroups$Link", name := "undo", desc := "([I)Z" } : Jvm.MethodName) prog_4_method_4_code (6 : Nat) (Option.some Jvm.ClassFile.FieldType.boolean) ∈ tg := tg_of (List.mem_append_right _ (List.mem_append_left _ (List.mem_of_getElem? (l := tables_1_1) (i := 174) (by rfl)))) rfl
theorem w_175 : Jvm.Cond.methodLink "CycleGroups$Chain" (33 : Nat) ({ cls := "CycleGroups$Link", name := "addGenerator", desc := "([I)V" } : Jvm.MethodName) ∈ tg := tg_of (List.mem_append_right _ (List.mem_append_left _ (List.mem_of_getElem? (l := tables_1_1) (i := 175) (by rfl)))) rfl
theorem w_176 : Jvm.Cond.instanceMethod ({ cls := "CycleGroups$Link", name := "addGenerator", desc := "([I)V" } : Jvm.MethodName) ∈ tg := tg_of (List.mem_append_right _ (List.mem_append_left _ (List.mem_of_getElem? (l := tables_1_1) (i := 176) (by rfl)))) rfl
theorem w_177 : Jvm.Cond.selects "CycleGroups$Link" ({ cls := "CycleGroups$Link", name := "addGenerator", desc := "([I)V" } : Jvm.MethodName) ({ cls := "CycleGroups$Link", name := "addGenerator", desc := "([I)V" } : Jvm.MethodName) ∈ tg := tg_of (List.mem_append_right _ (List.mem_append_left _ (List.mem_of_getElem? (l := tables_1_1) (i := 177) (by rfl)))) rfl
theorem w_178 : Jvm.Cond.code ({ cls := "CycleGroups$Link", name := "addGenerator", desc := "([I)V" } : Jvm.MethodName) prog_4_method_5_code (2 : Nat) (Option.none : Option Jvm.ClassFile.FieldType) ∈ tg := tg_of (List.mem_append_right _ (List.mem_append_left _ (List.mem_of_getElem? (l := tables_1_1) (i := 178) (by rfl)))) rfl
theorem w_179 : Jvm.Cond.methodLink "CycleGroups$Link" (46 : Nat) ({ cls := "java/lang/System", name := "arraycopy", desc := "(Ljava/lang/Object;ILjava/lang/Object;II)V" } : Jvm.MethodName) ∈ tg := tg_of (List.mem_append_right _ (List.mem_append_left _ (List.mem_of_getElem? (l := tables_1_1) (i := 179) (by rfl)))) rfl
theorem w_180 : Jvm.Cond.methodLink "CycleGroups$Chain" (37 : Nat) ({ cls := "CycleGroups$Chain", name := "complete", desc := "()V" } : Jvm.MethodName) ∈ tg := tg_of (List.mem_append_right _ (List.mem_append_left _ (List.mem_of_getElem? (l := tables_1_1) (i := 180) (by rfl)))) rfl
theorem w_182 : Jvm.Cond.instanceMethod ({ cls := "CycleGroups$Chain", name := "complete", desc := "()V" } : Jvm.MethodName) ∈ tg := tg_of (List.mem_append_right _ (List.mem_append_left _ (List.mem_of_getElem? (l := tables_1_1) (i := 182) (by rfl)))) rfl
theorem w_183 : Jvm.Cond.code ({ cls := "CycleGroups$Chain", name := "complete", desc := "()V" } : Jvm.MethodName) prog_2_method_6_code (3 : Nat) (Option.none : Option Jvm.ClassFile.FieldType) ∈ tg := tg_of (List.mem_append_right _ (List.mem_append_left _ (List.mem_of_getElem? (l := tables_1_1) (i := 183) (by rfl)))) rfl
theorem w_184 : Jvm.Cond.constant "CycleGroups$Chain" (58 : Nat) (1000000 : Int32) ∈ tg := tg_of (List.mem_append_right _ (List.mem_append_left _ (List.mem_of_getElem? (l := tables_1_1) (i := 184) (by rfl)))) rfl
theorem w_185 : Jvm.Cond.methodLink "CycleGroups$Chain" (59 : Nat) ({ cls := "CycleGroups$Chain", name := "advance", desc := "(I)I" } : Jvm.MethodName) ∈ tg := tg_of (List.mem_append_right _ (List.mem_append_left _ (List.mem_of_getElem? (l := tables_1_1) (i := 185) (by rfl)))) rfl
theorem w_187 : Jvm.Cond.instanceMethod ({ cls := "CycleGroups$Chain", name := "advance", desc := "(I)I" } : Jvm.MethodName) ∈ tg := tg_of (List.mem_append_right _ (List.mem_append_left _ (List.mem_of_getElem? (l := tables_1_1) (i := 187) (by rfl)))) rfl
theorem w_188 : Jvm.Cond.code ({ cls := "CycleGroups$Chain", name := "advance", desc := "(I)I" } : Jvm.MethodName) prog_2_method_7_code (5 : Nat) (Option.some Jvm.ClassFile.FieldType.int) ∈ tg := tg_of (List.mem_append_right _ (List.mem_append_left _ (List.mem_of_getElem? (l := tables_1_1) (i := 188) (by rfl)))) rfl
theorem w_189 : Jvm.Cond.methodLink "CycleGroups$Chain" (62 : Nat) ({ cls := "CycleGroups$Link", name := "openGenerator", desc := "()I" } : Jvm.MethodName) ∈ tg := tg_of (List.mem_append_right _ (List.mem_append_left _ (List.mem_of_getElem? (l := tables_1_1) (i := 189) (by rfl)))) rfl
theorem w_190 : Jvm.Cond.instanceMethod ({ cls := "CycleGroups$Link", name := "openGenerator", desc := "()I" } : Jvm.MethodName) ∈ tg := tg_of (List.mem_append_right _ (List.mem_append_left _ (List.mem_of_getElem? (l := tables_1_1) (i := 190) (by rfl)))) rfl
theorem w_191 : Jvm.Cond.selects "CycleGroups$Link" ({ cls := "CycleGroups$Link", name := "openGenerator", desc := "()I" } : Jvm.MethodName) ({ cls := "CycleGroups$Link", name := "openGenerator", desc := "()I" } : Jvm.MethodName) ∈ tg := tg_of (List.mem_append_right _ (List.mem_append_left _ (List.mem_of_getElem? (l := tables_1_1) (i := 191) (by rfl)))) rfl
theorem w_192 : Jvm.Cond.code ({ cls := "CycleGroups$Link", name := "openGenerator", desc := "()I" } : Jvm.MethodName) prog_4_method_6_code (2 : Nat) (Option.some Jvm.ClassFile.FieldType.int) ∈ tg := tg_of (List.mem_append_right _ (List.mem_append_left _ (List.mem_of_getElem? (l := tables_1_1) (i := 192) (by rfl)))) rfl
theorem w_193 : Jvm.Cond.methodLink "CycleGroups$Chain" (65 : Nat) ({ cls := "CycleGroups$Link", name := "reachesNewPlace", desc := "(I[I)Z" } : Jvm.MethodName) ∈ tg := tg_of (List.mem_append_right _ (List.mem_append_left _ (List.mem_of_getElem? (l := tables_1_1) (i := 193) (by rfl)))) rfl
theorem w_194 : Jvm.Cond.instanceMethod ({ cls := "CycleGroups$Link", name := "reachesNewPlace", desc := "(I[I)Z" } : Jvm.MethodName) ∈ tg := tg_of (List.mem_append_right _ (List.mem_append_left _ (List.mem_of_getElem? (l := tables_1_1) (i := 194) (by rfl)))) rfl
theorem w_195 : Jvm.Cond.selects "CycleGroups$Link" ({ cls := "CycleGroups$Link", name := "reachesNewPlace", desc := "(I[I)Z" } : Jvm.MethodName) ({ cls := "CycleGroups$Link", name := "reachesNewPlace", desc := "(I[I)Z" } : Jvm.MethodName) ∈ tg := tg_of (List.mem_append_right _ (List.mem_append_left _ (List.mem_of_getElem? (l := tables_1_1) (i := 195) (by rfl)))) rfl
theorem w_196 : Jvm.Cond.code ({ cls := "CycleGroups$Link", name := "reachesNewPlace", desc := "(I[I)Z" } : Jvm.MethodName) prog_4_method_7_code (9 : Nat) (Option.some Jvm.ClassFile.FieldType.boolean) ∈ tg := tg_of (List.mem_append_right _ (List.mem_append_left _ (List.mem_of_getElem? (l := tables_1_1) (i := 196) (by rfl)))) rfl
theorem w_197 : Jvm.Cond.methodLink "CycleGroups$Link" (52 : Nat) ({ cls := "CycleGroups$Link", name := "widen", desc := "(I[I[I)V" } : Jvm.MethodName) ∈ tg := tg_of (List.mem_append_right _ (List.mem_append_left _ (List.mem_of_getElem? (l := tables_1_1) (i := 197) (by rfl)))) rfl
theorem w_199 : Jvm.Cond.instanceMethod ({ cls := "CycleGroups$Link", name := "widen", desc := "(I[I[I)V" } : Jvm.MethodName) ∈ tg := tg_of (List.mem_append_right _ (List.mem_append_left _ (List.mem_of_getElem? (l := tables_1_1) (i := 199) (by rfl)))) rfl
theorem w_200 : Jvm.Cond.code ({ cls := "CycleGroups$Link", name := "widen", desc := "(I[I[I)V" } : Jvm.MethodName) prog_4_method_8_code (6 : Nat) (Option.none : Option Jvm.ClassFile.FieldType) ∈ tg := tg_of (List.mem_append_right _ (List.mem_append_left _ (List.mem_of_getElem? (l := tables_1_1) (i := 200) (by rfl)))) rfl
theorem w_201 : Jvm.Cond.methodLink "CycleGroups" (68 : Nat) ({ cls := "CycleGroups$Chain", name := "spreadSize", desc := "(I)I" } : Jvm.MethodName) ∈ tg := tg_of (List.mem_append_right _ (List.mem_append_left _ (List.mem_of_getElem? (l := tables_1_1) (i := 201) (by rfl)))) rfl
theorem w_202 : Jvm.Cond.instanceMethod ({ cls := "CycleGroups$Chain", name := "spreadSize", desc := "(I)I" } : Jvm.MethodName) ∈ tg := tg_of (List.mem_append_right _ (List.mem_append_left _ (List.mem_of_getElem? (l := tables_1_1) (i := 202) (by rfl)))) rfl
theorem w_203 : Jvm.Cond.selects "CycleGroups$Chain" ({ cls := "CycleGroups$Chain", name := "spreadSize", desc := "(I)I" } : Jvm.MethodName) ({ cls := "CycleGroups$Chain", name := "spreadSize", desc := "(I)I" } : Jvm.MethodName) ∈ tg := tg_of (List.mem_append_right _ (List.mem_append_left _ (List.mem_of_getElem? (l := tables_1_1) (i := 203) (by rfl)))) rfl
theorem w_204 : Jvm.Cond.code ({ cls := "CycleGroups$Chain", name := "spreadSize", desc := "(I)I" } : Jvm.MethodName) prog_2_method_3_code (2 : Nat) (Option.some Jvm.ClassFile.FieldType.int) ∈ tg := tg_of (List.mem_append_right _ (List.mem_append_left _ (List.mem_of_getElem? (l := tables_1_1) (i := 204) (by rfl)))) rfl
theorem w_205 : Jvm.Cond.methodLink "CycleGroups$Chain" (40 : Nat) ({ cls := "CycleGroups$Link", name := "spreadSize", desc := "()I" } : Jvm.MethodName) ∈ tg := tg_of (List.mem_append_right _ (List.mem_append_left _ (List.mem_of_getElem? (l := tables_1_1) (i := 205) (by rfl)))) rfl
theorem w_206 : Jvm.Cond.instanceMethod ({ cls := "CycleGroups$Link", name := "spreadSize", desc := "()I" } : Jvm.MethodName) ∈ tg := tg_of (List.mem_append_right _ (List.mem_append_left _ (List.mem_of_getElem? (l := tables_1_1) (i := 206) (by rfl)))) rfl
theorem w_207 : Jvm.Cond.selects "CycleGroups$Link" ({ cls := "CycleGroups$Link", name := "spreadSize", desc := "()I" } : Jvm.MethodName) ({ cls := "CycleGroups$Link", name := "spreadSize", desc := "()I" } : Jvm.MethodName) ∈ tg := tg_of (List.mem_append_right _ (List.mem_append_left _ (List.mem_of_getElem? (l := tables_1_1) (i := 207) (by rfl)))) rfl
theorem w_208 : Jvm.Cond.code ({ cls := "CycleGroups$Link", name := "spreadSize", desc := "()I" } : Jvm.MethodName) prog_4_method_3_code (1 : Nat) (Option.some Jvm.ClassFile.FieldType.int) ∈ tg := tg_of (List.mem_append_right _ (List.mem_append_left _ (List.mem_of_getElem? (l := tables_1_1) (i := 208) (by rfl)))) rfl
theorem w_209 : Jvm.Cond.methodLink "CycleGroupsLaw" (35 : Nat) ({ cls := "CycleGroups", name := "base", desc := "(I)I" } : Jvm.MethodName) ∈ tg := tg_of (List.mem_append_right _ (List.mem_append_left _ (List.mem_of_getElem? (l := tables_1_1) (i := 209) (by rfl)))) rfl
theorem w_210 : Jvm.Cond.instanceMethod ({ cls := "CycleGroups", name := "base", desc := "(I)I" } : Jvm.MethodName) ∈ tg := tg_of (List.mem_append_right _ (List.mem_append_left _ (List.mem_of_getElem? (l := tables_1_1) (i := 210) (by rfl)))) rfl
theorem w_211 : Jvm.Cond.selects "CycleGroups" ({ cls := "CycleGroups", name := "base", desc := "(I)I" } : Jvm.MethodName) ({ cls := "CycleGroups", name := "base", desc := "(I)I" } : Jvm.MethodName) ∈ tg := tg_of (List.mem_append_right _ (List.mem_append_left _ (List.mem_of_getElem? (l := tables_1_1) (i := 211) (by rfl)))) rfl
theorem w_212 : Jvm.Cond.code ({ cls := "CycleGroups", name := "base", desc := "(I)I" } : Jvm.MethodName) prog_1_method_5_code (5 : Nat) (Option.some Jvm.ClassFile.FieldType.int) ∈ tg := tg_of (List.mem_append_right _ (List.mem_append_left _ (List.mem_of_getElem? (l := tables_1_1) (i := 212) (by rfl)))) rfl
theorem w_213 : Jvm.Cond.methodLink "CycleGroupsLaw" (40 : Nat) ({ cls := "CycleGroups", name := "spread", desc := "(I)I" } : Jvm.MethodName) ∈ tg := tg_of (List.mem_append_right _ (List.mem_append_left _ (List.mem_of_getElem? (l := tables_1_1) (i := 213) (by rfl)))) rfl
theorem w_214 : Jvm.Cond.instanceMethod ({ cls := "CycleGroups", name := "spread", desc := "(I)I" } : Jvm.MethodName) ∈ tg := tg_of (List.mem_append_right _ (List.mem_append_left _ (List.mem_of_getElem? (l := tables_1_1) (i := 214) (by rfl)))) rfl
theorem w_215 : Jvm.Cond.selects "CycleGroups" ({ cls := "CycleGroups", name := "spread", desc := "(I)I" } : Jvm.MethodName) ({ cls := "CycleGroups", name := "spread", desc := "(I)I" } : Jvm.MethodName) ∈ tg := tg_of (List.mem_append_right _ (List.mem_append_left _ (List.mem_of_getElem? (l := tables_1_1) (i := 215) (by rfl)))) rfl
theorem w_216 : Jvm.Cond.code ({ cls := "CycleGroups", name := "spread", desc := "(I)I" } : Jvm.MethodName) prog_1_method_6_code (2 : Nat) (Option.some Jvm.ClassFile.FieldType.int) ∈ tg := tg_of (List.mem_append_right _ (List.mem_append_left _ (List.mem_of_getElem? (l := tables_1_1) (i := 216) (by rfl)))) rfl
theorem w_217 : Jvm.Cond.methodLink "CycleGroupsLaw" (44 : Nat) ({ cls := "CycleGroups", name := "order", desc := "(I)I" } : Jvm.MethodName) ∈ tg := tg_of (List.mem_append_right _ (List.mem_append_left _ (List.mem_of_getElem? (l := tables_1_1) (i := 217) (by rfl)))) rfl
theorem w_218 : Jvm.Cond.instanceMethod ({ cls := "CycleGroups", name := "order", desc := "(I)I" } : Jvm.MethodName) ∈ tg := tg_of (List.mem_append_right _ (List.mem_append_left _ (List.mem_of_getElem? (l := tables_1_1) (i := 218) (by rfl)))) rfl
theorem w_219 : Jvm.Cond.selects "CycleGroups" ({ cls := "CycleGroups", name := "order", desc := "(I)I" } : Jvm.MethodName) ({ cls := "CycleGroups", name := "order", desc := "(I)I" } : Jvm.MethodName) ∈ tg := tg_of (List.mem_append_right _ (List.mem_append_left _ (List.mem_of_getElem? (l := tables_1_1) (i := 219) (by rfl)))) rfl
theorem w_220 : Jvm.Cond.code ({ cls := "CycleGroups", name := "order", desc := "(I)I" } : Jvm.MethodName) prog_1_method_7_code (2 : Nat) (Option.some Jvm.ClassFile.FieldType.int) ∈ tg := tg_of (List.mem_append_right _ (List.mem_append_left _ (List.mem_of_getElem? (l := tables_1_1) (i := 220) (by rfl)))) rfl
theorem w_221 : Jvm.Cond.methodLink "CycleGroups" (74 : Nat) ({ cls := "CycleGroups", name := "countGroup", desc := "(LCycleGroups$Chain;)V" } : Jvm.MethodName) ∈ tg := tg_of (List.mem_append_right _ (List.mem_append_left _ (List.mem_of_getElem? (l := tables_1_1) (i := 221) (by rfl)))) rfl
theorem w_223 : Jvm.Cond.instanceMethod ({ cls := "CycleGroups", name := "countGroup", desc := "(LCycleGroups$Chain;)V" } : Jvm.MethodName) ∈ tg := tg_of (List.mem_append_right _ (List.mem_append_left _ (List.mem_of_getElem? (l := tables_1_1) (i := 223) (by rfl)))) rfl
theorem w_224 : Jvm.Cond.code ({ cls := "CycleGroups", name := "countGroup", desc := "(LCycleGroups$Chain;)V" } : Jvm.MethodName) prog_1_method_24_code (3 : Nat) (Option.none : Option Jvm.ClassFile.FieldType) ∈ tg := tg_of (List.mem_append_right _ (List.mem_append_left _ (List.mem_of_getElem? (l := tables_1_1) (i := 224) (by rfl)))) rfl
theorem w_225 : Jvm.Cond.methodLink "CycleGroups" (138 : Nat) ({ cls := "CycleGroups$Decimal", name := "setOne", desc := "()V" } : Jvm.MethodName) ∈ tg := tg_of (List.mem_append_right _ (List.mem_append_left _ (List.mem_of_getElem? (l := tables_1_1) (i := 225) (by rfl)))) rfl
theorem w_226 : Jvm.Cond.instanceMethod ({ cls := "CycleGroups$Decimal", name := "setOne", desc := "()V" } : Jvm.MethodName) ∈ tg := tg_of (List.mem_append_right _ (List.mem_append_left _ (List.mem_of_getElem? (l := tables_1_1) (i := 226) (by rfl)))) rfl
theorem w_227 : Jvm.Cond.selects "CycleGroups$Decimal" ({ cls := "CycleGroups$Decimal", name := "setOne", desc := "()V" } : Jvm.MethodName) ({ cls := "CycleGroups$Decimal", name := "setOne", desc := "()V" } : Jvm.MethodName) ∈ tg := tg_of (List.mem_append_right _ (List.mem_append_left _ (List.mem_of_getElem? (l := tables_1_1) (i := 227) (by rfl)))) rfl
theorem w_228 : Jvm.Cond.code ({ cls := "CycleGroups$Decimal", name := "setOne", desc := "()V" } : Jvm.MethodName) prog_3_method_2_code (1 : Nat) (Option.none : Option Jvm.ClassFile.FieldType) ∈ tg := tg_of (List.mem_append_right _ (List.mem_append_left _ (List.mem_of_getElem? (l := tables_1_1) (i := 228) (by rfl)))) rfl
theorem w_229 : Jvm.Cond.methodLink "CycleGroups$Decimal" (13 : Nat) ({ cls := "java/util/Arrays", name := "fill", desc := "([II)V" } : Jvm.MethodName) ∈ tg := tg_of (List.mem_append_right _ (List.mem_append_left _ (List.mem_of_getElem? (l := tables_1_1) (i := 229) (by rfl)))) rfl
theorem w_230 : Jvm.Cond.methodLink "CycleGroups" (141 : Nat) ({ cls := "CycleGroups$Decimal", name := "multiply", desc := "(I)V" } : Jvm.MethodName) ∈ tg := tg_of (List.mem_append_right _ (List.mem_append_left _ (List.mem_of_getElem? (l := tables_1_1) (i := 230) (by rfl)))) rfl
theorem w_231 : Jvm.Cond.instanceMethod ({ cls := "CycleGroups$Decimal", name := "multiply", desc := "(I)V" } : Jvm.MethodName) ∈ tg := tg_of (List.mem_append_right _ (List.mem_append_left _ (List.mem_of_getElem? (l := tables_1_1) (i := 231) (by rfl)))) rfl
theorem w_232 : Jvm.Cond.selects "CycleGroups$Decimal" ({ cls := "CycleGroups$Decimal", name := "multiply", desc := "(I)V" } : Jvm.MethodName) ({ cls := "CycleGroups$Decimal", name := "multiply", desc := "(I)V" } : Jvm.MethodName) ∈ tg := tg_of (List.mem_append_right _ (List.mem_append_left _ (List.mem_of_getElem? (l := tables_1_1) (i := 232) (by rfl)))) rfl
theorem w_233 : Jvm.Cond.code ({ cls := "CycleGroups$Decimal", name := "multiply", desc := "(I)V" } : Jvm.MethodName) prog_3_method_3_code (5 : Nat) (Option.none : Option Jvm.ClassFile.FieldType) ∈ tg := tg_of (List.mem_append_right _ (List.mem_append_left _ (List.mem_of_getElem? (l := tables_1_1) (i := 233) (by rfl)))) rfl
theorem w_234 : Jvm.Cond.methodLink "CycleGroups" (78 : Nat) ({ cls := "CycleGroups$Decimal", name := "digit", desc := "(I)I" } : Jvm.MethodName) ∈ tg := tg_of (List.mem_append_right _ (List.mem_append_left _ (List.mem_of_getElem? (l := tables_1_1) (i := 234) (by rfl)))) rfl
theorem w_235 : Jvm.Cond.instanceMethod ({ cls := "CycleGroups$Decimal", name := "digit", desc := "(I)I" } : Jvm.MethodName) ∈ tg := tg_of (List.mem_append_right _ (List.mem_append_left _ (List.mem_of_getElem? (l := tables_1_1) (i := 235) (by rfl)))) rfl
theorem w_236 : Jvm.Cond.selects "CycleGroups$Decimal" ({ cls := "CycleGroups$Decimal", name := "digit", desc := "(I)I" } : Jvm.MethodName) ({ cls := "CycleGroups$Decimal", name := "digit", desc := "(I)I" } : Jvm.MethodName) ∈ tg := tg_of (List.mem_append_right _ (List.mem_append_left _ (List.mem_of_getElem? (l := tables_1_1) (i := 236) (by rfl)))) rfl
theorem w_237 : Jvm.Cond.code ({ cls := "CycleGroups$Decimal", name := "digit", desc := "(I)I" } : Jvm.MethodName) prog_3_method_5_code (2 : Nat) (Option.some Jvm.ClassFile.FieldType.int) ∈ tg := tg_of (List.mem_append_right _ (List.mem_append_left _ (List.mem_of_getElem? (l := tables_1_1) (i := 237) (by rfl)))) rfl
theorem w_238 : Jvm.Cond.methodLink "CycleGroups$Decimal" (19 : Nat) ({ cls := "CycleGroups$Decimal", name := "length", desc := "()I" } : Jvm.MethodName) ∈ tg := tg_of (List.mem_append_right _ (List.mem_append_left _ (List.mem_of_getElem? (l := tables_1_1) (i := 238) (by rfl)))) rfl
theorem w_240 : Jvm.Cond.instanceMethod ({ cls := "CycleGroups$Decimal", name := "length", desc := "()I" } : Jvm.MethodName) ∈ tg := tg_of (List.mem_append_right _ (List.mem_append_right _ (List.mem_append_left _ (List.mem_of_getElem? (l := tables_1_2) (i := 0) (by rfl))))) rfl
theorem w_241 : Jvm.Cond.code ({ cls := "CycleGroups$Decimal", name := "length", desc := "()I" } : Jvm.MethodName) prog_3_method_6_code (2 : Nat) (Option.some Jvm.ClassFile.FieldType.int) ∈ tg := tg_of (List.mem_append_right _ (List.mem_append_right _ (List.mem_append_left _ (List.mem_of_getElem? (l := tables_1_2) (i := 1) (by rfl))))) rfl
theorem w_242 : Jvm.Cond.methodLink "CycleGroupsLaw" (48 : Nat) ({ cls := "CycleGroups", name := "stabiliser", desc := "(II)I" } : Jvm.MethodName) ∈ tg := tg_of (List.mem_append_right _ (List.mem_append_right _ (List.mem_append_left _ (List.mem_of_getElem? (l := tables_1_2) (i := 2) (by rfl))))) rfl
theorem w_243 : Jvm.Cond.instanceMethod ({ cls := "CycleGroups", name := "stabiliser", desc := "(II)I" } : Jvm.MethodName) ∈ tg := tg_of (List.mem_append_right _ (List.mem_append_right _ (List.mem_append_left _ (List.mem_of_getElem? (l := tables_1_2) (i := 3) (by rfl))))) rfl
theorem w_244 : Jvm.Cond.selects "CycleGroups" ({ cls := "CycleGroups", name := "stabiliser", desc := "(II)I" } : Jvm.MethodName) ({ cls := "CycleGroups", name := "stabiliser", desc := "(II)I" } : Jvm.MethodName) ∈ tg := tg_of (List.mem_append_right _ (List.mem_append_right _ (List.mem_append_left _ (List.mem_of_getElem? (l := tables_1_2) (i := 4) (by rfl))))) rfl
theorem w_245 : Jvm.Cond.code ({ cls := "CycleGroups", name := "stabiliser", desc := "(II)I" } : Jvm.MethodName) prog_1_method_8_code (3 : Nat) (Option.some Jvm.ClassFile.FieldType.int) ∈ tg := tg_of (List.mem_append_right _ (List.mem_append_right _ (List.mem_append_left _ (List.mem_of_getElem? (l := tables_1_2) (i := 5) (by rfl))))) rfl
theorem w_246 : Jvm.Cond.methodLink "CycleGroups" (81 : Nat) ({ cls := "CycleGroups$Partition", name := "separate", desc := "()V" } : Jvm.MethodName) ∈ tg := tg_of (List.mem_append_right _ (List.mem_append_right _ (List.mem_append_left _ (List.mem_of_getElem? (l := tables_1_2) (i := 6) (by rfl))))) rfl
theorem w_247 : Jvm.Cond.instanceMethod ({ cls := "CycleGroups$Partition", name := "separate", desc := "()V" } : Jvm.MethodName) ∈ tg := tg_of (List.mem_append_right _ (List.mem_append_right _ (List.mem_append_left _ (List.mem_of_getElem? (l := tables_1_2) (i := 7) (by rfl))))) rfl
theorem w_248 : Jvm.Cond.selects "CycleGroups$Partition" ({ cls := "CycleGroups$Partition", name := "separate", desc := "()V" } : Jvm.MethodName) ({ cls := "CycleGroups$Partition", name := "separate", desc := "()V" } : Jvm.MethodName) ∈ tg := tg_of (List.mem_append_right _ (List.mem_append_right _ (List.mem_append_left _ (List.mem_of_getElem? (l := tables_1_2) (i := 8) (by rfl))))) rfl
theorem w_249 : Jvm.Cond.code ({ cls := "CycleGroups$Partition", name := "separate", desc := "()V" } : Jvm.MethodName) prog_5_method_2_code (1 : Nat) (Option.none : Option Jvm.ClassFile.FieldType) ∈ tg := tg_of (List.mem_append_right _ (List.mem_append_right _ (List.mem_append_left _ (List.mem_of_getElem? (l := tables_1_2) (i := 9) (by rfl))))) rfl
theorem w_250 : Jvm.Cond.methodLinkNest "CycleGroups$Partition" (13 : Nat) ({ cls := "CycleGroups", name := "leaveAll", desc := "([I)V" } : Jvm.MethodName) "CycleGroups" ∈ lw_tbl := List.mem_append_right _ (List.mem_append_right _ (List.mem_append_left _ (List.mem_of_getElem? (l := tables_1_2) (i := 10) (by rfl))))
theorem w_251 : Jvm.Cond.methodLink "CycleGroups" (84 : Nat) ({ cls := "CycleGroups$Partition", name := "joinOrbits", desc := "([[II)V" } : Jvm.MethodName) ∈ tg := tg_of (List.mem_append_right _ (List.mem_append_right _ (List.mem_append_left _ (List.mem_of_getElem? (l := tables_1_2) (i := 11) (by rfl))))) rfl
theorem w_252 : Jvm.Cond.instanceMethod ({ cls := "CycleGroups$Partition", name := "joinOrbits", desc := "([[II)V" } : Jvm.MethodName) ∈ tg := tg_of (List.mem_append_right _ (List.mem_append_right _ (List.mem_append_left _ (List.mem_of_getElem? (l := tables_1_2) (i := 12) (by rfl))))) rfl
theorem w_253 : Jvm.Cond.selects "CycleGroups$Partition" ({ cls := "CycleGroups$Partition", name := "joinOrbits", desc := "([[II)V" } : Jvm.MethodName) ({ cls := "CycleGroups$Partition", name := "joinOrbits", desc := "([[II)V" } : Jvm.MethodName) ∈ tg := tg_of (List.mem_append_right _ (List.mem_append_right _ (List.mem_append_left _ (List.mem_of_getElem? (l := tables_1_2) (i := 13) (by rfl))))) rfl
theorem w_254 : Jvm.Cond.code ({ cls := "CycleGroups$Partition", name := "joinOrbits", desc := "([[II)V" } : Jvm.MethodName) prog_5_method_4_code (5 : Nat) (Option.none : Option Jvm.ClassFile.FieldType) ∈ tg := tg_of (List.mem_append_right _ (List.mem_append_right _ (List.mem_append_left _ (List.mem_of_getElem? (l := tables_1_2) (i := 14) (by rfl))))) rfl
theorem w_255 : Jvm.Cond.methodLink "CycleGroups$Partition" (28 : Nat) ({ cls := "CycleGroups$Partition", name := "join", desc := "(II)Z" } : Jvm.MethodName) ∈ tg := tg_of (List.mem_append_right _ (List.mem_append_right _ (List.mem_append_left _ (List.mem_of_getElem? (l := tables_1_2) (i := 15) (by rfl))))) rfl
theorem w_256 : Jvm.Cond.instanceMethod ({ cls := "CycleGroups$Partition", name := "join", desc := "(II)Z" } : Jvm.MethodName) ∈ tg := tg_of (List.mem_append_right _ (List.mem_append_right _ (List.mem_append_left _ (List.mem_of_getElem? (l := tables_1_2) (i := 16) (by rfl))))) rfl
theorem w_257 : Jvm.Cond.selects "CycleGroups$Partition" ({ cls := "CycleGroups$Partition", name := "join", desc := "(II)Z" } : Jvm.MethodName) ({ cls := "CycleGroups$Partition", name := "join", desc := "(II)Z" } : Jvm.MethodName) ∈ tg := tg_of (List.mem_append_right _ (List.mem_append_right _ (List.mem_append_left _ (List.mem_of_getElem? (l := tables_1_2) (i := 17) (by rfl))))) rfl
theorem w_258 : Jvm.Cond.code ({ cls := "CycleGroups$Partition", name := "join", desc := "(II)Z" } : Jvm.MethodName) prog_5_method_3_code (6 : Nat) (Option.some Jvm.ClassFile.FieldType.boolean) ∈ tg := tg_of (List.mem_append_right _ (List.mem_append_right _ (List.mem_append_left _ (List.mem_of_getElem? (l := tables_1_2) (i := 18) (by rfl))))) rfl
theorem w_259 : Jvm.Cond.methodLink "CycleGroups$Partition" (19 : Nat) ({ cls := "java/lang/Math", name := "min", desc := "(II)I" } : Jvm.MethodName) ∈ tg := tg_of (List.mem_append_right _ (List.mem_append_right _ (List.mem_append_left _ (List.mem_of_getElem? (l := tables_1_2) (i := 19) (by rfl))))) rfl
theorem w_260 : Jvm.Cond.methodLink "CycleGroups$Partition" (25 : Nat) ({ cls := "java/lang/Math", name := "max", desc := "(II)I" } : Jvm.MethodName) ∈ tg := tg_of (List.mem_append_right _ (List.mem_append_right _ (List.mem_append_left _ (List.mem_of_getElem? (l := tables_1_2) (i := 20) (by rfl))))) rfl
theorem w_261 : Jvm.Cond.methodLink "CycleGroups" (88 : Nat) ({ cls := "CycleGroups$Partition", name := "sizeWith", desc := "(I)I" } : Jvm.MethodName) ∈ tg := tg_of (List.mem_append_right _ (List.mem_append_right _ (List.mem_append_left _ (List.mem_of_getElem? (l := tables_1_2) (i := 21) (by rfl))))) rfl
theorem w_262 : Jvm.Cond.instanceMethod ({ cls := "CycleGroups$Partition", name := "sizeWith", desc := "(I)I" } : Jvm.MethodName) ∈ tg := tg_of (List.mem_append_right _ (List.mem_append_right _ (List.mem_append_left _ (List.mem_of_getElem? (l := tables_1_2) (i := 22) (by rfl))))) rfl
theorem w_263 : Jvm.Cond.selects "CycleGroups$Partition" ({ cls := "CycleGroups$Partition", name := "sizeWith", desc := "(I)I" } : Jvm.MethodName) ({ cls := "CycleGroups$Partition", name := "sizeWith", desc := "(I)I" } : Jvm.MethodName) ∈ tg := tg_of (List.mem_append_right _ (List.mem_append_right _ (List.mem_append_left _ (List.mem_of_getElem? (l := tables_1_2) (i := 23) (by rfl))))) rfl
theorem w_264 : Jvm.Cond.code ({ cls := "CycleGroups$Partition", name := "sizeWith", desc := "(I)I" } : Jvm.MethodName) prog_5_method_8_code (4 : Nat) (Option.some Jvm.ClassFile.FieldType.int) ∈ tg := tg_of (List.mem_append_right _ (List.mem_append_right _ (List.mem_append_left _ (List.mem_of_getElem? (l := tables_1_2) (i := 24) (by rfl))))) rfl
theorem w_265 : Jvm.Cond.methodLink "CycleGroups" (91 : Nat) ({ cls := "CycleGroups$Decimal", name := "divide", desc := "(I)V" } : Jvm.MethodName) ∈ tg := tg_of (List.mem_append_right _ (List.mem_append_right _ (List.mem_append_left _ (List.mem_of_getElem? (l := tables_1_2) (i := 25) (by rfl))))) rfl
theorem w_266 : Jvm.Cond.instanceMethod ({ cls := "CycleGroups$Decimal", name := "divide", desc := "(I)V" } : Jvm.MethodName) ∈ tg := tg_of (List.mem_append_right _ (List.mem_append_right _ (List.mem_append_left _ (List.mem_of_getElem? (l := tables_1_2) (i := 26) (by rfl))))) rfl
theorem w_267 : Jvm.Cond.selects "CycleGroups$Decimal" ({ cls := "CycleGroups$Decimal", name := "divide", desc := "(I)V" } : Jvm.MethodName) ({ cls := "CycleGroups$Decimal", name := "divide", desc := "(I)V" } : Jvm.MethodName) ∈ tg := tg_of (List.mem_append_right _ (List.mem_append_right _ (List.mem_append_left _ (List.mem_of_getElem? (l := tables_1_2) (i := 27) (by rfl))))) rfl
theorem w_268 : Jvm.Cond.code ({ cls := "CycleGroups$Decimal", name := "divide", desc := "(I)V" } : Jvm.MethodName) prog_3_method_4_code (5 : Nat) (Option.none : Option Jvm.ClassFile.FieldType) ∈ tg := tg_of (List.mem_append_right _ (List.mem_append_right _ (List.mem_append_left _ (List.mem_of_getElem? (l := tables_1_2) (i := 28) (by rfl))))) rfl
theorem w_269 : Jvm.Cond.methodLink "CycleGroupsLaw" (53 : Nat) ({ cls := "CycleGroups", name := "orbit", desc := "(I)I" } : Jvm.MethodName) ∈ tg := tg_of (List.mem_append_right _ (List.mem_append_right _ (List.mem_append_left _ (List.mem_of_getElem? (l := tables_1_2) (i := 29) (by rfl))))) rfl
theorem w_270 : Jvm.Cond.instanceMethod ({ cls := "CycleGroups", name := "orbit", desc := "(I)I" } : Jvm.MethodName) ∈ tg := tg_of (List.mem_append_right _ (List.mem_append_right _ (List.mem_append_left _ (List.mem_of_getElem? (l := tables_1_2) (i := 30) (by rfl))))) rfl
theorem w_271 : Jvm.Cond.selects "CycleGroups" ({ cls := "CycleGroups", name := "orbit", desc := "(I)I" } : Jvm.MethodName) ({ cls := "CycleGroups", name := "orbit", desc := "(I)I" } : Jvm.MethodName) ∈ tg := tg_of (List.mem_append_right _ (List.mem_append_right _ (List.mem_append_left _ (List.mem_of_getElem? (l := tables_1_2) (i := 31) (by rfl))))) rfl
theorem w_272 : Jvm.Cond.code ({ cls := "CycleGroups", name := "orbit", desc := "(I)I" } : Jvm.MethodName) prog_1_method_9_code (2 : Nat) (Option.some Jvm.ClassFile.FieldType.int) ∈ tg := tg_of (List.mem_append_right _ (List.mem_append_right _ (List.mem_append_left _ (List.mem_of_getElem? (l := tables_1_2) (i := 32) (by rfl))))) rfl
theorem w_273 : Jvm.Cond.methodLink "CycleGroups" (94 : Nat) ({ cls := "CycleGroups$Partition", name := "leastWith", desc := "(I)I" } : Jvm.MethodName) ∈ tg := tg_of (List.mem_append_right _ (List.mem_append_right _ (List.mem_append_left _ (List.mem_of_getElem? (l := tables_1_2) (i := 33) (by rfl))))) rfl
theorem w_274 : Jvm.Cond.instanceMethod ({ cls := "CycleGroups$Partition", name := "leastWith", desc := "(I)I" } : Jvm.MethodName) ∈ tg := tg_of (List.mem_append_right _ (List.mem_append_right _ (List.mem_append_left _ (List.mem_of_getElem? (l := tables_1_2) (i := 34) (by rfl))))) rfl
theorem w_275 : Jvm.Cond.selects "CycleGroups$Partition" ({ cls := "CycleGroups$Partition", name := "leastWith", desc := "(I)I" } : Jvm.MethodName) ({ cls := "CycleGroups$Partition", name := "leastWith", desc := "(I)I" } : Jvm.MethodName) ∈ tg := tg_of (List.mem_append_right _ (List.mem_append_right _ (List.mem_append_left _ (List.mem_of_getElem? (l := tables_1_2) (i := 35) (by rfl))))) rfl
theorem w_276 : Jvm.Cond.code ({ cls := "CycleGroups$Partition", name := "leastWith", desc := "(I)I" } : Jvm.MethodName) prog_5_method_7_code (2 : Nat) (Option.some Jvm.ClassFile.FieldType.int) ∈ tg := tg_of (List.mem_append_right _ (List.mem_append_right _ (List.mem_append_left _ (List.mem_of_getElem? (l := tables_1_2) (i := 36) (by rfl))))) rfl
theorem w_277 : Jvm.Cond.methodLink "CycleGroupsLaw" (57 : Nat) ({ cls := "CycleGroups", name := "block", desc := "(II)I" } : Jvm.MethodName) ∈ tg := tg_of (List.mem_append_right _ (List.mem_append_right _ (List.mem_append_left _ (List.mem_of_getElem? (l := tables_1_2) (i := 37) (by rfl))))) rfl
theorem w_278 : Jvm.Cond.instanceMethod ({ cls := "CycleGroups", name := "block", desc := "(II)I" } : Jvm.MethodName) ∈ tg := tg_of (List.mem_append_right _ (List.mem_append_right _ (List.mem_append_left _ (List.mem_of_getElem? (l := tables_1_2) (i := 38) (by rfl))))) rfl
theorem w_279 : Jvm.Cond.selects "CycleGroups" ({ cls := "CycleGroups", name := "block", desc := "(II)I" } : Jvm.MethodName) ({ cls := "CycleGroups", name := "block", desc := "(II)I" } : Jvm.MethodName) ∈ tg := tg_of (List.mem_append_right _ (List.mem_append_right _ (List.mem_append_left _ (List.mem_of_getElem? (l := tables_1_2) (i := 39) (by rfl))))) rfl
theorem w_280 : Jvm.Cond.code ({ cls := "CycleGroups", name := "block", desc := "(II)I" } : Jvm.MethodName) prog_1_method_10_code (3 : Nat) (Option.some Jvm.ClassFile.FieldType.int) ∈ tg := tg_of (List.mem_append_right _ (List.mem_append_right _ (List.mem_append_left _ (List.mem_of_getElem? (l := tables_1_2) (i := 40) (by rfl))))) rfl
theorem w_281 : Jvm.Cond.methodLink "CycleGroups" (97 : Nat) ({ cls := "CycleGroups$Partition", name := "join", desc := "(II)Z" } : Jvm.MethodName) ∈ tg := tg_of (List.mem_append_right _ (List.mem_append_right _ (List.mem_append_left _ (List.mem_of_getElem? (l := tables_1_2) (i := 41) (by rfl))))) rfl
theorem w_282 : Jvm.Cond.methodLink "CycleGroups" (101 : Nat) ({ cls := "CycleGroups$Partition", name := "joinImages", desc := "([[II)V" } : Jvm.MethodName) ∈ tg := tg_of (List.mem_append_right _ (List.mem_append_right _ (List.mem_append_left _ (List.mem_of_getElem? (l := tables_1_2) (i := 42) (by rfl))))) rfl
theorem w_283 : Jvm.Cond.instanceMethod ({ cls := "CycleGroups$Partition", name := "joinImages", desc := "([[II)V" } : Jvm.MethodName) ∈ tg := tg_of (List.mem_append_right _ (List.mem_append_right _ (List.mem_append_left _ (List.mem_of_getElem? (l := tables_1_2) (i := 43) (by rfl))))) rfl
theorem w_284 : Jvm.Cond.selects "CycleGroups$Partition" ({ cls := "CycleGroups$Partition", name := "joinImages", desc := "([[II)V" } : Jvm.MethodName) ({ cls := "CycleGroups$Partition", name := "joinImages", desc := "([[II)V" } : Jvm.MethodName) ∈ tg := tg_of (List.mem_append_right _ (List.mem_append_right _ (List.mem_append_left _ (List.mem_of_getElem? (l := tables_1_2) (i := 44) (by rfl))))) rfl
theorem w_285 : Jvm.Cond.code ({ cls := "CycleGroups$Partition", name := "joinImages", desc := "([[II)V" } : Jvm.MethodName) prog_5_method_5_code (6 : Nat) (Option.none : Option Jvm.ClassFile.FieldType) ∈ tg := tg_of (List.mem_append_right _ (List.mem_append_right _ (List.mem_append_left _ (List.mem_of_getElem? (l := tables_1_2) (i := 45) (by rfl))))) rfl
theorem w_286 : Jvm.Cond.methodLink "CycleGroups$Partition" (32 : Nat) ({ cls := "CycleGroups$Partition", name := "joinImagesOnce", desc := "([I)Z" } : Jvm.MethodName) ∈ tg := tg_of (List.mem_append_right _ (List.mem_append_right _ (List.mem_append_left _ (List.mem_of_getElem? (l := tables_1_2) (i := 46) (by rfl))))) rfl
theorem w_288 : Jvm.Cond.instanceMethod ({ cls := "CycleGroups$Partition", name := "joinImagesOnce", desc := "([I)Z" } : Jvm.MethodName) ∈ tg := tg_of (List.mem_append_right _ (List.mem_append_right _ (List.mem_append_left _ (List.mem_of_getElem? (l := tables_1_2) (i := 48) (by rfl))))) rfl
theorem w_289 : Jvm.Cond.code ({ cls := "CycleGroups$Partition", name := "joinImagesOnce", desc := "([I)Z" } : Jvm.MethodName) prog_5_method_6_code (4 : Nat) (Option.some Jvm.ClassFile.FieldType.boolean) ∈ tg := tg_of (List.mem_append_right _ (List.mem_append_right _ (List.mem_append_left _ (List.mem_of_getElem? (l := tables_1_2) (i := 49) (by rfl))))) rfl
theorem w_290 : Jvm.Cond.methodLink "CycleGroupsLaw" (61 : Nat) ({ cls := "CycleGroups", name := "state", desc := "()I" } : Jvm.MethodName) ∈ tg := tg_of (List.mem_append_right _ (List.mem_append_right _ (List.mem_append_left _ (List.mem_of_getElem? (l := tables_1_2) (i := 50) (by rfl))))) rfl
theorem w_291 : Jvm.Cond.instanceMethod ({ cls := "CycleGroups", name := "state", desc := "()I" } : Jvm.MethodName) ∈ tg := tg_of (List.mem_append_right _ (List.mem_append_right _ (List.mem_append_left _ (List.mem_of_getElem? (l := tables_1_2) (i := 51) (by rfl))))) rfl
theorem w_292 : Jvm.Cond.selects "CycleGroups" ({ cls := "CycleGroups", name := "state", desc := "()I" } : Jvm.MethodName) ({ cls := "CycleGroups", name := "state", desc := "()I" } : Jvm.MethodName) ∈ tg := tg_of (List.mem_append_right _ (List.mem_append_right _ (List.mem_append_left _ (List.mem_of_getElem? (l := tables_1_2) (i := 52) (by rfl))))) rfl
theorem w_293 : Jvm.Cond.code ({ cls := "CycleGroups", name := "state", desc := "()I" } : Jvm.MethodName) prog_1_method_11_code (1 : Nat) (Option.some Jvm.ClassFile.FieldType.int) ∈ tg := tg_of (List.mem_append_right _ (List.mem_append_right _ (List.mem_append_left _ (List.mem_of_getElem? (l := tables_1_2) (i := 53) (by rfl))))) rfl
theorem w_294 : Jvm.Cond.methodLink "CycleGroupsLaw" (65 : Nat) ({ cls := "CycleGroups", name := "apply", desc := "(II)Z" } : Jvm.MethodName) ∈ tg := tg_of (List.mem_append_right _ (List.mem_append_right _ (List.mem_append_left _ (List.mem_of_getElem? (l := tables_1_2) (i := 54) (by rfl))))) rfl
theorem w_295 : Jvm.Cond.instanceMethod ({ cls := "CycleGroups", name := "apply", desc := "(II)Z" } : Jvm.MethodName) ∈ tg := tg_of (List.mem_append_right _ (List.mem_append_right _ (List.mem_append_left _ (List.mem_of_getElem? (l := tables_1_2) (i := 55) (by rfl))))) rfl
theorem w_296 : Jvm.Cond.selects "CycleGroups" ({ cls := "CycleGroups", name := "apply", desc := "(II)Z" } : Jvm.MethodName) ({ cls := "CycleGroups", name := "apply", desc := "(II)Z" } : Jvm.MethodName) ∈ tg := tg_of (List.mem_append_right _ (List.mem_append_right _ (List.mem_append_left _ (List.mem_of_getElem? (l := tables_1_2) (i := 56) (by rfl))))) rfl
theorem w_297 : Jvm.Cond.code ({ cls := "CycleGroups", name := "apply", desc := "(II)Z" } : Jvm.MethodName) prog_1_method_12_code (3 : Nat) (Option.some Jvm.ClassFile.FieldType.boolean) ∈ tg := tg_of (List.mem_append_right _ (List.mem_append_right _ (List.mem_append_left _ (List.mem_of_getElem? (l := tables_1_2) (i := 57) (by rfl))))) rfl
theorem w_298 : Jvm.Cond.methodLink "CycleGroups" (107 : Nat) ({ cls := "CycleGroups", name := "isState", desc := "(I)Z" } : Jvm.MethodName) ∈ tg := tg_of (List.mem_append_right _ (List.mem_append_right _ (List.mem_append_left _ (List.mem_of_getElem? (l := tables_1_2) (i := 58) (by rfl))))) rfl
theorem w_300 : Jvm.Cond.instanceMethod ({ cls := "CycleGroups", name := "isState", desc := "(I)Z" } : Jvm.MethodName) ∈ tg := tg_of (List.mem_append_right _ (List.mem_append_right _ (List.mem_append_left _ (List.mem_of_getElem? (l := tables_1_2) (i := 60) (by rfl))))) rfl
theorem w_301 : Jvm.Cond.code ({ cls := "CycleGroups", name := "isState", desc := "(I)Z" } : Jvm.MethodName) prog_1_method_22_code (2 : Nat) (Option.some Jvm.ClassFile.FieldType.boolean) ∈ tg := tg_of (List.mem_append_right _ (List.mem_append_right _ (List.mem_append_left _ (List.mem_of_getElem? (l := tables_1_2) (i := 61) (by rfl))))) rfl
theorem w_302 : Jvm.Cond.methodLink "CycleGroups" (110 : Nat) ({ cls := "CycleGroups", name := "follow", desc := "([I[I)V" } : Jvm.MethodName) ∈ tg := tg_of (List.mem_append_right _ (List.mem_append_right _ (List.mem_append_left _ (List.mem_of_getElem? (l := tables_1_2) (i := 62) (by rfl))))) rfl
theorem w_303 : Jvm.Cond.static ({ cls := "CycleGroups", name := "follow", desc := "([I[I)V" } : Jvm.MethodName) ∈ tg := tg_of (List.mem_append_right _ (List.mem_append_right _ (List.mem_append_left _ (List.mem_of_getElem? (l := tables_1_2) (i := 63) (by rfl))))) rfl
theorem w_304 : Jvm.Cond.code ({ cls := "CycleGroups", name := "follow", desc := "([I[I)V" } : Jvm.MethodName) prog_1_method_26_code (3 : Nat) (Option.none : Option Jvm.ClassFile.FieldType) ∈ tg := tg_of (List.mem_append_right _ (List.mem_append_right _ (List.mem_append_left _ (List.mem_of_getElem? (l := tables_1_2) (i := 64) (by rfl))))) rfl
theorem w_305 : Jvm.Cond.methodLink "CycleGroupsLaw" (70 : Nat) ({ cls := "CycleGroups", name := "exchange", desc := "(III)Z" } : Jvm.MethodName) ∈ tg := tg_of (List.mem_append_right _ (List.mem_append_right _ (List.mem_append_left _ (List.mem_of_getElem? (l := tables_1_2) (i := 65) (by rfl))))) rfl
theorem w_306 : Jvm.Cond.instanceMethod ({ cls := "CycleGroups", name := "exchange", desc := "(III)Z" } : Jvm.MethodName) ∈ tg := tg_of (List.mem_append_right _ (List.mem_append_right _ (List.mem_append_left _ (List.mem_of_getElem? (l := tables_1_2) (i := 66) (by rfl))))) rfl
theorem w_307 : Jvm.Cond.selects "CycleGroups" ({ cls := "CycleGroups", name := "exchange", desc := "(III)Z" } : Jvm.MethodName) ({ cls := "CycleGroups", name := "exchange", desc := "(III)Z" } : Jvm.MethodName) ∈ tg := tg_of (List.mem_append_right _ (List.mem_append_right _ (List.mem_append_left _ (List.mem_of_getElem? (l := tables_1_2) (i := 67) (by rfl))))) rfl
theorem w_308 : Jvm.Cond.code ({ cls := "CycleGroups", name := "exchange", desc := "(III)Z" } : Jvm.MethodName) prog_1_method_13_code (6 : Nat) (Option.some Jvm.ClassFile.FieldType.boolean) ∈ tg := tg_of (List.mem_append_right _ (List.mem_append_right _ (List.mem_append_left _ (List.mem_of_getElem? (l := tables_1_2) (i := 68) (by rfl))))) rfl
theorem w_309 : Jvm.Cond.methodLink "CycleGroupsLaw" (76 : Nat) ({ cls := "CycleGroups", name := "scramble", desc := "(IJI)Z" } : Jvm.MethodName) ∈ tg := tg_of (List.mem_append_right _ (List.mem_append_right _ (List.mem_append_left _ (List.mem_of_getElem? (l := tables_1_2) (i := 69) (by rfl))))) rfl
theorem w_310 : Jvm.Cond.instanceMethod ({ cls := "CycleGroups", name := "scramble", desc := "(IJI)Z" } : Jvm.MethodName) ∈ tg := tg_of (List.mem_append_right _ (List.mem_append_right _ (List.mem_append_left _ (List.mem_of_getElem? (l := tables_1_2) (i := 70) (by rfl))))) rfl
theorem w_311 : Jvm.Cond.selects "CycleGroups" ({ cls := "CycleGroups", name := "scramble", desc := "(IJI)Z" } : Jvm.MethodName) ({ cls := "CycleGroups", name := "scramble", desc := "(IJI)Z" } : Jvm.MethodName) ∈ tg := tg_of (List.mem_append_right _ (List.mem_append_right _ (List.mem_append_left _ (List.mem_of_getElem? (l := tables_1_2) (i := 71) (by rfl))))) rfl
theorem w_312 : Jvm.Cond.code ({ cls := "CycleGroups", name := "scramble", desc := "(IJI)Z" } : Jvm.MethodName) prog_1_method_14_code (9 : Nat) (Option.some Jvm.ClassFile.FieldType.boolean) ∈ tg := tg_of (List.mem_append_right _ (List.mem_append_right _ (List.mem_append_left _ (List.mem_of_getElem? (l := tables_1_2) (i := 72) (by rfl))))) rfl
theorem w_313 : Jvm.Cond.constantLong "CycleGroups" (114 : Nat) (6364136223846793005 : Int64) ∈ tg := tg_of (List.mem_append_right _ (List.mem_append_right _ (List.mem_append_left _ (List.mem_of_getElem? (l := tables_1_2) (i := 73) (by rfl))))) rfl
theorem w_314 : Jvm.Cond.constantLong "CycleGroups" (116 : Nat) (1442695040888963407 : Int64) ∈ tg := tg_of (List.mem_append_right _ (List.mem_append_right _ (List.mem_append_left _ (List.mem_of_getElem? (l := tables_1_2) (i := 74) (by rfl))))) rfl
theorem w_315 : Jvm.Cond.methodLink "CycleGroupsLaw" (81 : Nat) ({ cls := "CycleGroups", name := "image", desc := "(II)I" } : Jvm.MethodName) ∈ tg := tg_of (List.mem_append_right _ (List.mem_append_right _ (List.mem_append_left _ (List.mem_of_getElem? (l := tables_1_2) (i := 75) (by rfl))))) rfl
theorem w_316 : Jvm.Cond.instanceMethod ({ cls := "CycleGroups", name := "image", desc := "(II)I" } : Jvm.MethodName) ∈ tg := tg_of (List.mem_append_right _ (List.mem_append_right _ (List.mem_append_left _ (List.mem_of_getElem? (l := tables_1_2) (i := 76) (by rfl))))) rfl
theorem w_317 : Jvm.Cond.selects "CycleGroups" ({ cls := "CycleGroups", name := "image", desc := "(II)I" } : Jvm.MethodName) ({ cls := "CycleGroups", name := "image", desc := "(II)I" } : Jvm.MethodName) ∈ tg := tg_of (List.mem_append_right _ (List.mem_append_right _ (List.mem_append_left _ (List.mem_of_getElem? (l := tables_1_2) (i := 77) (by rfl))))) rfl
theorem w_318 : Jvm.Cond.code ({ cls := "CycleGroups", name := "image", desc := "(II)I" } : Jvm.MethodName) prog_1_method_15_code (3 : Nat) (Option.some Jvm.ClassFile.FieldType.int) ∈ tg := tg_of (List.mem_append_right _ (List.mem_append_right _ (List.mem_append_left _ (List.mem_of_getElem? (l := tables_1_2) (i := 78) (by rfl))))) rfl
theorem w_319 : Jvm.Cond.methodLink "CycleGroupsLaw" (85 : Nat) ({ cls := "CycleGroups", name := "member", desc := "(I)I" } : Jvm.MethodName) ∈ tg := tg_of (List.mem_append_right _ (List.mem_append_right _ (List.mem_append_left _ (List.mem_of_getElem? (l := tables_1_2) (i := 79) (by rfl))))) rfl
theorem w_320 : Jvm.Cond.instanceMethod ({ cls := "CycleGroups", name := "member", desc := "(I)I" } : Jvm.MethodName) ∈ tg := tg_of (List.mem_append_right _ (List.mem_append_right _ (List.mem_append_left _ (List.mem_of_getElem? (l := tables_1_2) (i := 80) (by rfl))))) rfl
theorem w_321 : Jvm.Cond.selects "CycleGroups" ({ cls := "CycleGroups", name := "member", desc := "(I)I" } : Jvm.MethodName) ({ cls := "CycleGroups", name := "member", desc := "(I)I" } : Jvm.MethodName) ∈ tg := tg_of (List.mem_append_right _ (List.mem_append_right _ (List.mem_append_left _ (List.mem_of_getElem? (l := tables_1_2) (i := 81) (by rfl))))) rfl
theorem w_322 : Jvm.Cond.code ({ cls := "CycleGroups", name := "member", desc := "(I)I" } : Jvm.MethodName) prog_1_method_16_code (2 : Nat) (Option.some Jvm.ClassFile.FieldType.int) ∈ tg := tg_of (List.mem_append_right _ (List.mem_append_right _ (List.mem_append_left _ (List.mem_of_getElem? (l := tables_1_2) (i := 82) (by rfl))))) rfl
theorem w_323 : Jvm.Cond.methodLink "CycleGroups" (118 : Nat) ({ cls := "CycleGroups$Chain", name := "failingPlace", desc := "([I)I" } : Jvm.MethodName) ∈ tg := tg_of (List.mem_append_right _ (List.mem_append_right _ (List.mem_append_left _ (List.mem_of_getElem? (l := tables_1_2) (i := 83) (by rfl))))) rfl
theorem w_324 : Jvm.Cond.methodLink "CycleGroupsLaw" (89 : Nat) ({ cls := "CycleGroups", name := "level", desc := "(I)I" } : Jvm.MethodName) ∈ tg := tg_of (List.mem_append_right _ (List.mem_append_right _ (List.mem_append_left _ (List.mem_of_getElem? (l := tables_1_2) (i := 84) (by rfl))))) rfl
theorem w_325 : Jvm.Cond.instanceMethod ({ cls := "CycleGroups", name := "level", desc := "(I)I" } : Jvm.MethodName) ∈ tg := tg_of (List.mem_append_right _ (List.mem_append_right _ (List.mem_append_left _ (List.mem_of_getElem? (l := tables_1_2) (i := 85) (by rfl))))) rfl
theorem w_326 : Jvm.Cond.selects "CycleGroups" ({ cls := "CycleGroups", name := "level", desc := "(I)I" } : Jvm.MethodName) ({ cls := "CycleGroups", name := "level", desc := "(I)I" } : Jvm.MethodName) ∈ tg := tg_of (List.mem_append_right _ (List.mem_append_right _ (List.mem_append_left _ (List.mem_of_getElem? (l := tables_1_2) (i := 86) (by rfl))))) rfl
theorem w_327 : Jvm.Cond.code ({ cls := "CycleGroups", name := "level", desc := "(I)I" } : Jvm.MethodName) prog_1_method_17_code (2 : Nat) (Option.some Jvm.ClassFile.FieldType.int) ∈ tg := tg_of (List.mem_append_right _ (List.mem_append_right _ (List.mem_append_left _ (List.mem_of_getElem? (l := tables_1_2) (i := 87) (by rfl))))) rfl
theorem w_328 : Jvm.Cond.methodLink "CycleGroupsLaw" (93 : Nat) ({ cls := "CycleGroups", name := "parity", desc := "(I)I" } : Jvm.MethodName) ∈ tg := tg_of (List.mem_append_right _ (List.mem_append_right _ (List.mem_append_left _ (List.mem_of_getElem? (l := tables_1_2) (i := 88) (by rfl))))) rfl
theorem w_329 : Jvm.Cond.instanceMethod ({ cls := "CycleGroups", name := "parity", desc := "(I)I" } : Jvm.MethodName) ∈ tg := tg_of (List.mem_append_right _ (List.mem_append_right _ (List.mem_append_left _ (List.mem_of_getElem? (l := tables_1_2) (i := 89) (by rfl))))) rfl
theorem w_330 : Jvm.Cond.selects "CycleGroups" ({ cls := "CycleGroups", name := "parity", desc := "(I)I" } : Jvm.MethodName) ({ cls := "CycleGroups", name := "parity", desc := "(I)I" } : Jvm.MethodName) ∈ tg := tg_of (List.mem_append_right _ (List.mem_append_right _ (List.mem_append_left _ (List.mem_of_getElem? (l := tables_1_2) (i := 90) (by rfl))))) rfl
theorem w_331 : Jvm.Cond.code ({ cls := "CycleGroups", name := "parity", desc := "(I)I" } : Jvm.MethodName) prog_1_method_18_code (6 : Nat) (Option.some Jvm.ClassFile.FieldType.int) ∈ tg := tg_of (List.mem_append_right _ (List.mem_append_right _ (List.mem_append_left _ (List.mem_of_getElem? (l := tables_1_2) (i := 91) (by rfl))))) rfl
theorem w_332 : Jvm.Cond.methodLink "CycleGroupsLaw" (97 : Nat) ({ cls := "CycleGroups", name := "times", desc := "(I)J" } : Jvm.MethodName) ∈ tg := tg_of (List.mem_append_right _ (List.mem_append_right _ (List.mem_append_left _ (List.mem_of_getElem? (l := tables_1_2) (i := 92) (by rfl))))) rfl
theorem w_333 : Jvm.Cond.instanceMethod ({ cls := "CycleGroups", name := "times", desc := "(I)J" } : Jvm.MethodName) ∈ tg := tg_of (List.mem_append_right _ (List.mem_append_right _ (List.mem_append_left _ (List.mem_of_getElem? (l := tables_1_2) (i := 93) (by rfl))))) rfl
theorem w_334 : Jvm.Cond.selects "CycleGroups" ({ cls := "CycleGroups", name := "times", desc := "(I)J" } : Jvm.MethodName) ({ cls := "CycleGroups", name := "times", desc := "(I)J" } : Jvm.MethodName) ∈ tg := tg_of (List.mem_append_right _ (List.mem_append_right _ (List.mem_append_left _ (List.mem_of_getElem? (l := tables_1_2) (i := 94) (by rfl))))) rfl
theorem w_335 : Jvm.Cond.code ({ cls := "CycleGroups", name := "times", desc := "(I)J" } : Jvm.MethodName) prog_1_method_19_code (5 : Nat) (Option.some Jvm.ClassFile.FieldType.long) ∈ tg := tg_of (List.mem_append_right _ (List.mem_append_right _ (List.mem_append_left _ (List.mem_of_getElem? (l := tables_1_2) (i := 95) (by rfl))))) rfl
theorem w_336 : Jvm.Cond.methodLink "CycleGroups" (122 : Nat) ({ cls := "CycleGroups", name := "returnTime", desc := "([II)I" } : Jvm.MethodName) ∈ tg := tg_of (List.mem_append_right _ (List.mem_append_right _ (List.mem_append_left _ (List.mem_of_getElem? (l := tables_1_2) (i := 96) (by rfl))))) rfl
theorem w_337 : Jvm.Cond.static ({ cls := "CycleGroups", name := "returnTime", desc := "([II)I" } : Jvm.MethodName) ∈ tg := tg_of (List.mem_append_right _ (List.mem_append_right _ (List.mem_append_left _ (List.mem_of_getElem? (l := tables_1_2) (i := 97) (by rfl))))) rfl
theorem w_338 : Jvm.Cond.code ({ cls := "CycleGroups", name := "returnTime", desc := "([II)I" } : Jvm.MethodName) prog_1_method_27_code (4 : Nat) (Option.some Jvm.ClassFile.FieldType.int) ∈ tg := tg_of (List.mem_append_right _ (List.mem_append_right _ (List.mem_append_left _ (List.mem_of_getElem? (l := tables_1_2) (i := 98) (by rfl))))) rfl
theorem w_339 : Jvm.Cond.methodLink "CycleGroups" (126 : Nat) ({ cls := "CycleGroups", name := "leastMultiple", desc := "(JI)J" } : Jvm.MethodName) ∈ tg := tg_of (List.mem_append_right _ (List.mem_append_right _ (List.mem_append_left _ (List.mem_of_getElem? (l := tables_1_2) (i := 99) (by rfl))))) rfl
theorem w_340 : Jvm.Cond.static ({ cls := "CycleGroups", name := "leastMultiple", desc := "(JI)J" } : Jvm.MethodName) ∈ tg := tg_of (List.mem_append_right _ (List.mem_append_right _ (List.mem_append_left _ (List.mem_of_getElem? (l := tables_1_2) (i := 100) (by rfl))))) rfl
theorem w_341 : Jvm.Cond.code ({ cls := "CycleGroups", name := "leastMultiple", desc := "(JI)J" } : Jvm.MethodName) prog_1_method_28_code (4 : Nat) (Option.some Jvm.ClassFile.FieldType.long) ∈ tg := tg_of (List.mem_append_right _ (List.mem_append_right _ (List.mem_append_left _ (List.mem_of_getElem? (l := tables_1_2) (i := 101) (by rfl))))) rfl
theorem w_342 : Jvm.Cond.methodLink "CycleGroupsLaw" (9 : Nat) ({ cls := "CycleGroupsLaw", name := "cell", desc := "([II)I" } : Jvm.MethodName) ∈ tg := tg_of (List.mem_append_right _ (List.mem_append_right _ (List.mem_append_left _ (List.mem_of_getElem? (l := tables_1_2) (i := 102) (by rfl))))) rfl
theorem w_343 : Jvm.Cond.static ({ cls := "CycleGroupsLaw", name := "cell", desc := "([II)I" } : Jvm.MethodName) ∈ tg := tg_of (List.mem_append_right _ (List.mem_append_right _ (List.mem_append_left _ (List.mem_of_getElem? (l := tables_1_2) (i := 103) (by rfl))))) rfl
theorem w_344 : Jvm.Cond.code ({ cls := "CycleGroupsLaw", name := "cell", desc := "([II)I" } : Jvm.MethodName) method_2_code (2 : Nat) (Option.some Jvm.ClassFile.FieldType.int) ∈ tg := tg_of (List.mem_append_right _ (List.mem_append_right _ (List.mem_append_left _ (List.mem_of_getElem? (l := tables_1_2) (i := 104) (by rfl))))) rfl
theorem w_345 : Jvm.Cond.classLink "CycleGroupsLaw" (18 : Nat) "CycleGroupsModel" ∈ tg := tg_of (List.mem_append_right _ (List.mem_append_right _ (List.mem_append_left _ (List.mem_of_getElem? (l := tables_1_2) (i := 105) (by rfl))))) rfl
theorem w_346 : Jvm.Cond.instantiable "CycleGroupsModel" (24 : Nat) ∈ tg := tg_of (List.mem_append_right _ (List.mem_append_right _ (List.mem_append_left _ (List.mem_of_getElem? (l := tables_1_2) (i := 106) (by rfl))))) rfl
theorem w_347 : Jvm.Cond.methodLink "CycleGroupsLaw" (20 : Nat) ({ cls := "CycleGroupsModel", name := "<init>", desc := "(I)V" } : Jvm.MethodName) ∈ tg := tg_of (List.mem_append_right _ (List.mem_append_right _ (List.mem_append_left _ (List.mem_of_getElem? (l := tables_1_2) (i := 107) (by rfl))))) rfl
theorem w_348 : Jvm.Cond.instanceMethod ({ cls := "CycleGroupsModel", name := "<init>", desc := "(I)V" } : Jvm.MethodName) ∈ tg := tg_of (List.mem_append_right _ (List.mem_append_right _ (List.mem_append_left _ (List.mem_of_getElem? (l := tables_1_2) (i := 108) (by rfl))))) rfl
theorem w_349 : Jvm.Cond.code ({ cls := "CycleGroupsModel", name := "<init>", desc := "(I)V" } : Jvm.MethodName) prog_7_method_1_code (2 : Nat) (Option.none : Option Jvm.ClassFile.FieldType) ∈ tg := tg_of (List.mem_append_right _ (List.mem_append_right _ (List.mem_append_left _ (List.mem_of_getElem? (l := tables_1_2) (i := 109) (by rfl))))) rfl
theorem w_350 : Jvm.Cond.methodLink "CycleGroupsModel" (1 : Nat) ({ cls := "java/lang/Object", name := "<init>", desc := "()V" } : Jvm.MethodName) ∈ tg := tg_of (List.mem_append_right _ (List.mem_append_right _ (List.mem_append_left _ (List.mem_of_getElem? (l := tables_1_2) (i := 110) (by rfl))))) rfl
theorem w_351 : Jvm.Cond.fieldLink "CycleGroupsModel" (69 : Nat) "CycleGroupsModel" "thrown" "I" ∈ tg := tg_of (List.mem_append_right _ (List.mem_append_right _ (List.mem_append_left _ (List.mem_of_getElem? (l := tables_1_2) (i := 111) (by rfl))))) rfl
theorem w_352 : Jvm.Cond.fieldLink "CycleGroupsModel" (65 : Nat) "CycleGroupsModel" "places" "I" ∈ tg := tg_of (List.mem_append_right _ (List.mem_append_right _ (List.mem_append_left _ (List.mem_of_getElem? (l := tables_1_2) (i := 112) (by rfl))))) rfl
theorem w_353 : Jvm.Cond.fieldLink "CycleGroupsModel" (75 : Nat) "CycleGroupsModel" "moves" "I" ∈ tg := tg_of (List.mem_append_right _ (List.mem_append_right _ (List.mem_append_left _ (List.mem_of_getElem? (l := tables_1_2) (i := 113) (by rfl))))) rfl
theorem w_354 : Jvm.Cond.fieldLink "CycleGroupsModel" (7 : Nat) "CycleGroupsModel" "move" "[I" ∈ tg := tg_of (List.mem_append_right _ (List.mem_append_right _ (List.mem_append_left _ (List.mem_of_getElem? (l := tables_1_2) (i := 114) (by rfl))))) rfl
theorem w_355 : Jvm.Cond.fieldLink "CycleGroupsModel" (72 : Nat) "CycleGroupsModel" "states" "I" ∈ tg := tg_of (List.mem_append_right _ (List.mem_append_right _ (List.mem_append_left _ (List.mem_of_getElem? (l := tables_1_2) (i := 115) (by rfl))))) rfl
theorem w_356 : Jvm.Cond.fieldLink "CycleGroupsModel" (13 : Nat) "CycleGroupsModel" "state" "[I" ∈ tg := tg_of (List.mem_append_right _ (List.mem_append_right _ (List.mem_append_left _ (List.mem_of_getElem? (l := tables_1_2) (i := 116) (by rfl))))) rfl
theorem w_357 : Jvm.Cond.fieldLink "CycleGroupsModel" (82 : Nat) "CycleGroupsModel" "isKnown" "Z" ∈ tg := tg_of (List.mem_append_right _ (List.mem_append_right _ (List.mem_append_left _ (List.mem_of_getElem? (l := tables_1_2) (i := 117) (by rfl))))) rfl
theorem w_358 : Jvm.Cond.fieldLink "CycleGroupsModel" (16 : Nat) "CycleGroupsModel" "rows" "[I" ∈ tg := tg_of (List.mem_append_right _ (List.mem_append_right _ (List.mem_append_left _ (List.mem_of_getElem? (l := tables_1_2) (i := 118) (by rfl))))) rfl
theorem w_359 : Jvm.Cond.fieldLink "CycleGroupsModel" (19 : Nat) "CycleGroupsModel" "has" "[Z" ∈ tg := tg_of (List.mem_append_right _ (List.mem_append_right _ (List.mem_append_left _ (List.mem_of_getElem? (l := tables_1_2) (i := 119) (by rfl))))) rfl
theorem w_360 : Jvm.Cond.fieldLink "CycleGroupsModel" (97 : Nat) "CycleGroupsModel" "makers" "I" ∈ tg := tg_of (List.mem_append_right _ (List.mem_append_right _ (List.mem_append_left _ (List.mem_of_getElem? (l := tables_1_2) (i := 120) (by rfl))))) rfl
theorem w_361 : Jvm.Cond.fieldLink "CycleGroupsModel" (23 : Nat) "CycleGroupsModel" "maker" "[I" ∈ tg := tg_of (List.mem_append_right _ (List.mem_append_right _ (List.mem_append_left _ (List.mem_of_getElem? (l := tables_1_2) (i := 121) (by rfl))))) rfl
theorem w_362 : Jvm.Cond.fieldLink "CycleGroupsModel" (26 : Nat) "CycleGroupsModel" "low" "[I" ∈ tg := tg_of (List.mem_append_right _ (List.mem_append_right _ (List.mem_append_left _ (List.mem_of_getElem? (l := tables_1_2) (i := 122) (by rfl))))) rfl
theorem w_363 : Jvm.Cond.fieldLink "CycleGroupsModel" (29 : Nat) "CycleGroupsModel" "high" "[I" ∈ tg := tg_of (List.mem_append_right _ (List.mem_append_right _ (List.mem_append_left _ (List.mem_of_getElem? (l := tables_1_2) (i := 123) (by rfl))))) rfl
theorem w_364 : Jvm.Cond.fieldLink "CycleGroupsModel" (32 : Nat) "CycleGroupsModel" "label" "[I" ∈ tg := tg_of (List.mem_append_right _ (List.mem_append_right _ (List.mem_append_left _ (List.mem_of_getElem? (l := tables_1_2) (i := 124) (by rfl))))) rfl
theorem w_365 : Jvm.Cond.fieldLink "CycleGroupsModel" (35 : Nat) "CycleGroupsModel" "isUsed" "[Z" ∈ tg := tg_of (List.mem_append_right _ (List.mem_append_right _ (List.mem_append_left _ (List.mem_of_getElem? (l := tables_1_2) (i := 125) (by rfl))))) rfl
theorem w_366 : Jvm.Cond.fieldLink "CycleGroupsModel" (38 : Nat) "CycleGroupsModel" "queue" "[I" ∈ tg := tg_of (List.mem_append_right _ (List.mem_append_right _ (List.mem_append_left _ (List.mem_of_getElem? (l := tables_1_2) (i := 126) (by rfl))))) rfl
theorem w_367 : Jvm.Cond.fieldLink "CycleGroupsModel" (41 : Nat) "CycleGroupsModel" "by" "[I" ∈ tg := tg_of (List.mem_append_right _ (List.mem_append_right _ (List.mem_append_left _ (List.mem_of_getElem? (l := tables_1_2) (i := 127) (by rfl))))) rfl
theorem w_368 : Jvm.Cond.fieldLink "CycleGroupsModel" (44 : Nat) "CycleGroupsModel" "seen" "[Z" ∈ tg := tg_of (List.mem_append_right _ (List.mem_append_right _ (List.mem_append_left _ (List.mem_of_getElem? (l := tables_1_2) (i := 128) (by rfl))))) rfl
theorem w_369 : Jvm.Cond.fieldLink "CycleGroupsModel" (47 : Nat) "CycleGroupsModel" "work" "[I" ∈ tg := tg_of (List.mem_append_right _ (List.mem_append_right _ (List.mem_append_left _ (List.mem_of_getElem? (l := tables_1_2) (i := 129) (by rfl))))) rfl
theorem w_370 : Jvm.Cond.fieldLink "CycleGroupsModel" (50 : Nat) "CycleGroupsModel" "round" "[I" ∈ tg := tg_of (List.mem_append_right _ (List.mem_append_right _ (List.mem_append_left _ (List.mem_of_getElem? (l := tables_1_2) (i := 130) (by rfl))))) rfl
theorem w_371 : Jvm.Cond.fieldLink "CycleGroupsModel" (53 : Nat) "CycleGroupsModel" "sets" "[I" ∈ tg := tg_of (List.mem_append_right _ (List.mem_append_right _ (List.mem_append_left _ (List.mem_of_getElem? (l := tables_1_2) (i := 131) (by rfl))))) rfl
theorem w_372 : Jvm.Cond.fieldLink "CycleGroupsModel" (56 : Nat) "CycleGroupsModel" "digits" "[I" ∈ tg := tg_of (List.mem_append_right _ (List.mem_append_right _ (List.mem_append_left _ (List.mem_of_getElem? (l := tables_1_2) (i := 132) (by rfl))))) rfl
theorem w_373 : Jvm.Cond.fieldLink "CycleGroupsModel" (59 : Nat) "CycleGroupsModel" "ring" "[I" ∈ tg := tg_of (List.mem_append_right _ (List.mem_append_right _ (List.mem_append_left _ (List.mem_of_getElem? (l := tables_1_2) (i := 133) (by rfl))))) rfl
theorem w_374 : Jvm.Cond.fieldLink "CycleGroupsModel" (62 : Nat) "CycleGroupsModel" "more" "[I" ∈ tg := tg_of (List.mem_append_right _ (List.mem_append_right _ (List.mem_append_left _ (List.mem_of_getElem? (l := tables_1_2) (i := 134) (by rfl))))) rfl
theorem w_375 : Jvm.Cond.lays "CycleGroupsModel" "CycleGroupsModel" "thrown" "I" ∈ tg := tg_of (List.mem_append_right _ (List.mem_append_right _ (List.mem_append_left _ (List.mem_of_getElem? (l := tables_1_2) (i := 135) (by rfl))))) rfl
theorem w_377 : Jvm.Cond.laysFinal "CycleGroupsModel" "CycleGroupsModel" "places" "I" ∈ tg := tg_of (List.mem_append_right _ (List.mem_append_right _ (List.mem_append_left _ (List.mem_of_getElem? (l := tables_1_2) (i := 137) (by rfl))))) rfl
theorem w_379 : Jvm.Cond.lays "CycleGroupsModel" "CycleGroupsModel" "moves" "I" ∈ tg := tg_of (List.mem_append_right _ (List.mem_append_right _ (List.mem_append_left _ (List.mem_of_getElem? (l := tables_1_2) (i := 139) (by rfl))))) rfl
theorem w_381 : Jvm.Cond.laysFinal "CycleGroupsModel" "CycleGroupsModel" "move" "[I" ∈ tg := tg_of (List.mem_append_right _ (List.mem_append_right _ (List.mem_append_left _ (List.mem_of_getElem? (l := tables_1_2) (i := 141) (by rfl))))) rfl
theorem w_383 : Jvm.Cond.lays "CycleGroupsModel" "CycleGroupsModel" "states" "I" ∈ tg := tg_of (List.mem_append_right _ (List.mem_append_right _ (List.mem_append_left _ (List.mem_of_getElem? (l := tables_1_2) (i := 143) (by rfl))))) rfl
theorem w_385 : Jvm.Cond.laysFinal "CycleGroupsModel" "CycleGroupsModel" "state" "[I" ∈ tg := tg_of (List.mem_append_right _ (List.mem_append_right _ (List.mem_append_left _ (List.mem_of_getElem? (l := tables_1_2) (i := 145) (by rfl))))) rfl
theorem w_387 : Jvm.Cond.lays "CycleGroupsModel" "CycleGroupsModel" "isKnown" "Z" ∈ tg := tg_of (List.mem_append_right _ (List.mem_append_right _ (List.mem_append_left _ (List.mem_of_getElem? (l := tables_1_2) (i := 147) (by rfl))))) rfl
theorem w_389 : Jvm.Cond.laysFinal "CycleGroupsModel" "CycleGroupsModel" "rows" "[I" ∈ tg := tg_of (List.mem_append_right _ (List.mem_append_right _ (List.mem_append_left _ (List.mem_of_getElem? (l := tables_1_2) (i := 149) (by rfl))))) rfl
theorem w_391 : Jvm.Cond.laysFinal "CycleGroupsModel" "CycleGroupsModel" "has" "[Z" ∈ tg := tg_of (List.mem_append_right _ (List.mem_append_right _ (List.mem_append_left _ (List.mem_of_getElem? (l := tables_1_2) (i := 151) (by rfl))))) rfl
theorem w_393 : Jvm.Cond.lays "CycleGroupsModel" "CycleGroupsModel" "makers" "I" ∈ tg := tg_of (List.mem_append_right _ (List.mem_append_right _ (List.mem_append_left _ (List.mem_of_getElem? (l := tables_1_2) (i := 153) (by rfl))))) rfl
theorem w_395 : Jvm.Cond.laysFinal "CycleGroupsModel" "CycleGroupsModel" "maker" "[I" ∈ tg := tg_of (List.mem_append_right _ (List.mem_append_right _ (List.mem_append_left _ (List.mem_of_getElem? (l := tables_1_2) (i := 155) (by rfl))))) rfl
theorem w_397 : Jvm.Cond.laysFinal "CycleGroupsModel" "CycleGroupsModel" "low" "[I" ∈ tg := tg_of (List.mem_append_right _ (List.mem_append_right _ (List.mem_append_left _ (List.mem_of_getElem? (l := tables_1_2) (i := 157) (by rfl))))) rfl
theorem w_399 : Jvm.Cond.laysFinal "CycleGroupsModel" "CycleGroupsModel" "high" "[I" ∈ tg := tg_of (List.mem_append_right _ (List.mem_append_right _ (List.mem_append_left _ (List.mem_of_getElem? (l := tables_1_2) (i := 159) (by rfl))))) rfl
theorem w_401 : Jvm.Cond.laysFinal "CycleGroupsModel" "CycleGroupsModel" "label" "[I" ∈ tg := tg_of (List.mem_append_right _ (List.mem_append_right _ (List.mem_append_left _ (List.mem_of_getElem? (l := tables_1_2) (i := 161) (by rfl))))) rfl
theorem w_403 : Jvm.Cond.laysFinal "CycleGroupsModel" "CycleGroupsModel" "isUsed" "[Z" ∈ tg := tg_of (List.mem_append_right _ (List.mem_append_right _ (List.mem_append_left _ (List.mem_of_getElem? (l := tables_1_2) (i := 163) (by rfl))))) rfl
theorem w_405 : Jvm.Cond.laysFinal "CycleGroupsModel" "CycleGroupsModel" "queue" "[I" ∈ tg := tg_of (List.mem_append_right _ (List.mem_append_right _ (List.mem_append_left _ (List.mem_of_getElem? (l := tables_1_2) (i := 165) (by rfl))))) rfl
theorem w_407 : Jvm.Cond.laysFinal "CycleGroupsModel" "CycleGroupsModel" "by" "[I" ∈ tg := tg_of (List.mem_append_right _ (List.mem_append_right _ (List.mem_append_left _ (List.mem_of_getElem? (l := tables_1_2) (i := 167) (by rfl))))) rfl
theorem w_409 : Jvm.Cond.laysFinal "CycleGroupsModel" "CycleGroupsModel" "seen" "[Z" ∈ tg := tg_of (List.mem_append_right _ (List.mem_append_right _ (List.mem_append_left _ (List.mem_of_getElem? (l := tables_1_2) (i := 169) (by rfl))))) rfl
theorem w_411 : Jvm.Cond.laysFinal "CycleGroupsModel" "CycleGroupsModel" "work" "[I" ∈ tg := tg_of (List.mem_append_right _ (List.mem_append_right _ (List.mem_append_left _ (List.mem_of_getElem? (l := tables_1_2) (i := 171) (by rfl))))) rfl
theorem w_413 : Jvm.Cond.laysFinal "CycleGroupsModel" "CycleGroupsModel" "round" "[I" ∈ tg := tg_of (List.mem_append_right _ (List.mem_append_right _ (List.mem_append_left _ (List.mem_of_getElem? (l := tables_1_2) (i := 173) (by rfl))))) rfl
theorem w_415 : Jvm.Cond.laysFinal "CycleGroupsModel" "CycleGroupsModel" "sets" "[I" ∈ tg := tg_of (List.mem_append_right _ (List.mem_append_right _ (List.mem_append_left _ (List.mem_of_getElem? (l := tables_1_2) (i := 175) (by rfl))))) rfl
theorem w_417 : Jvm.Cond.laysFinal "CycleGroupsModel" "CycleGroupsModel" "digits" "[I" ∈ tg := tg_of (List.mem_append_right _ (List.mem_append_right _ (List.mem_append_left _ (List.mem_of_getElem? (l := tables_1_2) (i := 177) (by rfl))))) rfl
theorem w_419 : Jvm.Cond.laysFinal "CycleGroupsModel" "CycleGroupsModel" "ring" "[I" ∈ tg := tg_of (List.mem_append_right _ (List.mem_append_right _ (List.mem_append_left _ (List.mem_of_getElem? (l := tables_1_2) (i := 179) (by rfl))))) rfl
theorem w_421 : Jvm.Cond.laysFinal "CycleGroupsModel" "CycleGroupsModel" "more" "[I" ∈ tg := tg_of (List.mem_append_right _ (List.mem_append_right _ (List.mem_append_left _ (List.mem_of_getElem? (l := tables_1_2) (i := 181) (by rfl))))) rfl
theorem w_424 : Jvm.Cond.arrayClass Jvm.ClassFile.FieldType.boolean ∈ tg := tg_of (List.mem_append_right _ (List.mem_append_right _ (List.mem_append_left _ (List.mem_of_getElem? (l := tables_1_2) (i := 184) (by rfl))))) rfl
theorem w_425 : Jvm.Cond.methodLink "CycleGroupsLaw" (25 : Nat) ({ cls := "CycleGroupsModel", name := "move", desc := "()I" } : Jvm.MethodName) ∈ tg := tg_of (List.mem_append_right _ (List.mem_append_right _ (List.mem_append_left _ (List.mem_of_getElem? (l := tables_1_2) (i := 185) (by rfl))))) rfl
theorem w_426 : Jvm.Cond.instanceMethod ({ cls := "CycleGroupsModel", name := "move", desc := "()I" } : Jvm.MethodName) ∈ tg := tg_of (List.mem_append_right _ (List.mem_append_right _ (List.mem_append_left _ (List.mem_of_getElem? (l := tables_1_2) (i := 186) (by rfl))))) rfl
theorem w_427 : Jvm.Cond.selects "CycleGroupsModel" ({ cls := "CycleGroupsModel", name := "move", desc := "()I" } : Jvm.MethodName) ({ cls := "CycleGroupsModel", name := "move", desc := "()I" } : Jvm.MethodName) ∈ tg := tg_of (List.mem_append_right _ (List.mem_append_right _ (List.mem_append_left _ (List.mem_of_getElem? (l := tables_1_2) (i := 187) (by rfl))))) rfl
theorem w_428 : Jvm.Cond.code ({ cls := "CycleGroupsModel", name := "move", desc := "()I" } : Jvm.MethodName) prog_7_method_5_code (2 : Nat) (Option.some Jvm.ClassFile.FieldType.int) ∈ tg := tg_of (List.mem_append_right _ (List.mem_append_right _ (List.mem_append_left _ (List.mem_of_getElem? (l := tables_1_2) (i := 188) (by rfl))))) rfl
theorem w_429 : Jvm.Cond.methodLink "CycleGroupsLaw" (30 : Nat) ({ cls := "CycleGroupsModel", name := "cycle", desc := "(III)Z" } : Jvm.MethodName) ∈ tg := tg_of (List.mem_append_right _ (List.mem_append_right _ (List.mem_append_left _ (List.mem_of_getElem? (l := tables_1_2) (i := 189) (by rfl))))) rfl
theorem w_430 : Jvm.Cond.instanceMethod ({ cls := "CycleGroupsModel", name := "cycle", desc := "(III)Z" } : Jvm.MethodName) ∈ tg := tg_of (List.mem_append_right _ (List.mem_append_right _ (List.mem_append_left _ (List.mem_of_getElem? (l := tables_1_2) (i := 190) (by rfl))))) rfl
theorem w_431 : Jvm.Cond.selects "CycleGroupsModel" ({ cls := "CycleGroupsModel", name := "cycle", desc := "(III)Z" } : Jvm.MethodName) ({ cls := "CycleGroupsModel", name := "cycle", desc := "(III)Z" } : Jvm.MethodName) ∈ tg := tg_of (List.mem_append_right _ (List.mem_append_right _ (List.mem_append_left _ (List.mem_of_getElem? (l := tables_1_2) (i := 191) (by rfl))))) rfl
theorem w_432 : Jvm.Cond.code ({ cls := "CycleGroupsModel", name := "cycle", desc := "(III)Z" } : Jvm.MethodName) prog_7_method_6_code (4 : Nat) (Option.some Jvm.ClassFile.FieldType.boolean) ∈ tg := tg_of (List.mem_append_right _ (List.mem_append_right _ (List.mem_append_left _ (List.mem_of_getElem? (l := tables_1_2) (i := 192) (by rfl))))) rfl
theorem w_433 : Jvm.Cond.methodLink "CycleGroupsModel" (78 : Nat) ({ cls := "CycleGroupsModel", name := "isPlace", desc := "(I)Z" } : Jvm.MethodName) ∈ tg := tg_of (List.mem_append_right _ (List.mem_append_right _ (List.mem_append_left _ (List.mem_of_getElem? (l := tables_1_2) (i := 193) (by rfl))))) rfl
theorem w_435 : Jvm.Cond.instanceMethod ({ cls := "CycleGroupsModel", name := "isPlace", desc := "(I)Z" } : Jvm.MethodName) ∈ tg := tg_of (List.mem_append_right _ (List.mem_append_right _ (List.mem_append_left _ (List.mem_of_getElem? (l := tables_1_2) (i := 195) (by rfl))))) rfl
theorem w_436 : Jvm.Cond.code ({ cls := "CycleGroupsModel", name := "isPlace", desc := "(I)Z" } : Jvm.MethodName) prog_7_method_3_code (2 : Nat) (Option.some Jvm.ClassFile.FieldType.boolean) ∈ tg := tg_of (List.mem_append_right _ (List.mem_append_right _ (List.mem_append_left _ (List.mem_of_getElem? (l := tables_1_2) (i := 196) (by rfl))))) rfl
theorem w_437 : Jvm.Cond.methodLink "CycleGroupsLaw" (64 : Nat) ({ cls := "CycleGroupsModel", name := "state", desc := "()I" } : Jvm.MethodName) ∈ tg := tg_of (List.mem_append_right _ (List.mem_append_right _ (List.mem_append_left _ (List.mem_of_getElem? (l := tables_1_2) (i := 197) (by rfl))))) rfl
theorem w_438 : Jvm.Cond.instanceMethod ({ cls := "CycleGroupsModel", name := "state", desc := "()I" } : Jvm.MethodName) ∈ tg := tg_of (List.mem_append_right _ (List.mem_append_right _ (List.mem_append_left _ (List.mem_of_getElem? (l := tables_1_2) (i := 198) (by rfl))))) rfl
theorem w_439 : Jvm.Cond.selects "CycleGroupsModel" ({ cls := "CycleGroupsModel", name := "state", desc := "()I" } : Jvm.MethodName) ({ cls := "CycleGroupsModel", name := "state", desc := "()I" } : Jvm.MethodName) ∈ tg := tg_of (List.mem_append_right _ (List.mem_append_right _ (List.mem_append_left _ (List.mem_of_getElem? (l := tables_1_2) (i := 199) (by rfl))))) rfl
theorem w_440 : Jvm.Cond.code ({ cls := "CycleGroupsModel", name := "state", desc := "()I" } : Jvm.MethodName) prog_7_method_7_code (2 : Nat) (Option.some Jvm.ClassFile.FieldType.int) ∈ tg := tg_of (List.mem_append_right _ (List.mem_append_right _ (List.mem_append_left _ (List.mem_of_getElem? (l := tables_1_2) (i := 200) (by rfl))))) rfl
theorem w_441 : Jvm.Cond.methodLink "CycleGroupsLaw" (69 : Nat) ({ cls := "CycleGroupsModel", name := "apply", desc := "(II)Z" } : Jvm.MethodName) ∈ tg := tg_of (List.mem_append_right _ (List.mem_append_right _ (List.mem_append_left _ (List.mem_of_getElem? (l := tables_1_2) (i := 201) (by rfl))))) rfl
theorem w_442 : Jvm.Cond.instanceMethod ({ cls := "CycleGroupsModel", name := "apply", desc := "(II)Z" } : Jvm.MethodName) ∈ tg := tg_of (List.mem_append_right _ (List.mem_append_right _ (List.mem_append_left _ (List.mem_of_getElem? (l := tables_1_2) (i := 202) (by rfl))))) rfl
theorem w_443 : Jvm.Cond.selects "CycleGroupsModel" ({ cls := "CycleGroupsModel", name := "apply", desc := "(II)Z" } : Jvm.MethodName) ({ cls := "CycleGroupsModel", name := "apply", desc := "(II)Z" } : Jvm.MethodName) ∈ tg := tg_of (List.mem_append_right _ (List.mem_append_right _ (List.mem_append_left _ (List.mem_of_getElem? (l := tables_1_2) (i := 203) (by rfl))))) rfl
theorem w_444 : Jvm.Cond.code ({ cls := "CycleGroupsModel", name := "apply", desc := "(II)Z" } : Jvm.MethodName) prog_7_method_9_code (3 : Nat) (Option.some Jvm.ClassFile.FieldType.boolean) ∈ tg := tg_of (List.mem_append_right _ (List.mem_append_right _ (List.mem_append_left _ (List.mem_of_getElem? (l := tables_1_2) (i := 204) (by rfl))))) rfl
theorem w_445 : Jvm.Cond.methodLink "CycleGroupsModel" (86 : Nat) ({ cls := "CycleGroupsModel", name := "isState", desc := "(I)Z" } : Jvm.MethodName) ∈ tg := tg_of (List.mem_append_right _ (List.mem_append_right _ (List.mem_append_left _ (List.mem_of_getElem? (l := tables_1_2) (i := 205) (by rfl))))) rfl
theorem w_447 : Jvm.Cond.instanceMethod ({ cls := "CycleGroupsModel", name := "isState", desc := "(I)Z" } : Jvm.MethodName) ∈ tg := tg_of (List.mem_append_right _ (List.mem_append_right _ (List.mem_append_left _ (List.mem_of_getElem? (l := tables_1_2) (i := 207) (by rfl))))) rfl
theorem w_448 : Jvm.Cond.code ({ cls := "CycleGroupsModel", name := "isState", desc := "(I)Z" } : Jvm.MethodName) prog_7_method_4_code (2 : Nat) (Option.some Jvm.ClassFile.FieldType.boolean) ∈ tg := tg_of (List.mem_append_right _ (List.mem_append_right _ (List.mem_append_left _ (List.mem_of_getElem? (l := tables_1_2) (i := 208) (by rfl))))) rfl
theorem w_449 : Jvm.Cond.methodLink "CycleGroupsModel" (89 : Nat) ({ cls := "CycleGroupsModel", name := "applyMove", desc := "(II)V" } : Jvm.MethodName) ∈ tg := tg_of (List.mem_append_right _ (List.mem_append_right _ (List.mem_append_left _ (List.mem_of_getElem? (l := tables_1_2) (i := 209) (by rfl))))) rfl
theorem w_451 : Jvm.Cond.instanceMethod ({ cls := "CycleGroupsModel", name := "applyMove", desc := "(II)V" } : Jvm.MethodName) ∈ tg := tg_of (List.mem_append_right _ (List.mem_append_right _ (List.mem_append_left _ (List.mem_of_getElem? (l := tables_1_2) (i := 211) (by rfl))))) rfl
theorem w_452 : Jvm.Cond.code ({ cls := "CycleGroupsModel", name := "applyMove", desc := "(II)V" } : Jvm.MethodName) prog_7_method_8_code (4 : Nat) (Option.none : Option Jvm.ClassFile.FieldType) ∈ tg := tg_of (List.mem_append_right _ (List.mem_append_right _ (List.mem_append_left _ (List.mem_of_getElem? (l := tables_1_2) (i := 212) (by rfl))))) rfl
theorem w_453 : Jvm.Cond.methodLink "CycleGroupsLaw" (73 : Nat) ({ cls := "CycleGroupsModel", name := "exchange", desc := "(III)Z" } : Jvm.MethodName) ∈ tg := tg_of (List.mem_append_right _ (List.mem_append_right _ (List.mem_append_left _ (List.mem_of_getElem? (l := tables_1_2) (i := 213) (by rfl))))) rfl
theorem w_454 : Jvm.Cond.instanceMethod ({ cls := "CycleGroupsModel", name := "exchange", desc := "(III)Z" } : Jvm.MethodName) ∈ tg := tg_of (List.mem_append_right _ (List.mem_append_right _ (List.mem_append_left _ (List.mem_of_getElem? (l := tables_1_2) (i := 214) (by rfl))))) rfl
theorem w_455 : Jvm.Cond.selects "CycleGroupsModel" ({ cls := "CycleGroupsModel", name := "exchange", desc := "(III)Z" } : Jvm.MethodName) ({ cls := "CycleGroupsModel", name := "exchange", desc := "(III)Z" } : Jvm.MethodName) ∈ tg := tg_of (List.mem_append_right _ (List.mem_append_right _ (List.mem_append_left _ (List.mem_of_getElem? (l := tables_1_2) (i := 215) (by rfl))))) rfl
theorem w_456 : Jvm.Cond.code ({ cls := "CycleGroupsModel", name := "exchange", desc := "(III)Z" } : Jvm.MethodName) prog_7_method_10_code (6 : Nat) (Option.some Jvm.ClassFile.FieldType.boolean) ∈ tg := tg_of (List.mem_append_right _ (List.mem_append_right _ (List.mem_append_left _ (List.mem_of_getElem? (l := tables_1_2) (i := 216) (by rfl))))) rfl
theorem w_457 : Jvm.Cond.methodLink "CycleGroupsLaw" (80 : Nat) ({ cls := "CycleGroupsModel", name := "scramble", desc := "(IJI)Z" } : Jvm.MethodName) ∈ tg := tg_of (List.mem_append_right _ (List.mem_append_right _ (List.mem_append_left _ (List.mem_of_getElem? (l := tables_1_2) (i := 217) (by rfl))))) rfl
theorem w_458 : Jvm.Cond.instanceMethod ({ cls := "CycleGroupsModel", name := "scramble", desc := "(IJI)Z" } : Jvm.MethodName) ∈ tg := tg_of (List.mem_append_right _ (List.mem_append_right _ (List.mem_append_left _ (List.mem_of_getElem? (l := tables_1_2) (i := 218) (by rfl))))) rfl
theorem w_459 : Jvm.Cond.selects "CycleGroupsModel" ({ cls := "CycleGroupsModel", name := "scramble", desc := "(IJI)Z" } : Jvm.MethodName) ({ cls := "CycleGroupsModel", name := "scramble", desc := "(IJI)Z" } : Jvm.MethodName) ∈ tg := tg_of (List.mem_append_right _ (List.mem_append_right _ (List.mem_append_left _ (List.mem_of_getElem? (l := tables_1_2) (i := 219) (by rfl))))) rfl
theorem w_460 : Jvm.Cond.code ({ cls := "CycleGroupsModel", name := "scramble", desc := "(IJI)Z" } : Jvm.MethodName) prog_7_method_11_code (8 : Nat) (Option.some Jvm.ClassFile.FieldType.boolean) ∈ tg := tg_of (List.mem_append_right _ (List.mem_append_right _ (List.mem_append_left _ (List.mem_of_getElem? (l := tables_1_2) (i := 220) (by rfl))))) rfl
theorem w_461 : Jvm.Cond.constantLong "CycleGroupsModel" (93 : Nat) (6364136223846793005 : Int64) ∈ tg := tg_of (List.mem_append_right _ (List.mem_append_right _ (List.mem_append_left _ (List.mem_of_getElem? (l := tables_1_2) (i := 221) (by rfl))))) rfl
theorem w_462 : Jvm.Cond.constantLong "CycleGroupsModel" (95 : Nat) (1442695040888963407 : Int64) ∈ tg := tg_of (List.mem_append_right _ (List.mem_append_right _ (List.mem_append_left _ (List.mem_of_getElem? (l := tables_1_2) (i := 222) (by rfl))))) rfl
theorem w_463 : Jvm.Cond.methodLink "CycleGroupsLaw" (84 : Nat) ({ cls := "CycleGroupsModel", name := "image", desc := "(II)I" } : Jvm.MethodName) ∈ tg := tg_of (List.mem_append_right _ (List.mem_append_right _ (List.mem_append_left _ (List.mem_of_getElem? (l := tables_1_2) (i := 223) (by rfl))))) rfl
theorem w_464 : Jvm.Cond.instanceMethod ({ cls := "CycleGroupsModel", name := "image", desc := "(II)I" } : Jvm.MethodName) ∈ tg := tg_of (List.mem_append_right _ (List.mem_append_right _ (List.mem_append_left _ (List.mem_of_getElem? (l := tables_1_2) (i := 224) (by rfl))))) rfl
theorem w_465 : Jvm.Cond.selects "CycleGroupsModel" ({ cls := "CycleGroupsModel", name := "image", desc := "(II)I" } : Jvm.MethodName) ({ cls := "CycleGroupsModel", name := "image", desc := "(II)I" } : Jvm.MethodName) ∈ tg := tg_of (List.mem_append_right _ (List.mem_append_right _ (List.mem_append_left _ (List.mem_of_getElem? (l := tables_1_2) (i := 225) (by rfl))))) rfl
theorem w_466 : Jvm.Cond.code ({ cls := "CycleGroupsModel", name := "image", desc := "(II)I" } : Jvm.MethodName) prog_7_method_12_code (3 : Nat) (Option.some Jvm.ClassFile.FieldType.int) ∈ tg := tg_of (List.mem_append_right _ (List.mem_append_right _ (List.mem_append_left _ (List.mem_of_getElem? (l := tables_1_2) (i := 226) (by rfl))))) rfl
theorem w_467 : Jvm.Cond.methodLink "CycleGroupsLaw" (43 : Nat) ({ cls := "CycleGroupsModel", name := "spread", desc := "(I)I" } : Jvm.MethodName) ∈ tg := tg_of (List.mem_append_right _ (List.mem_append_right _ (List.mem_append_left _ (List.mem_of_getElem? (l := tables_1_2) (i := 227) (by rfl))))) rfl
theorem w_468 : Jvm.Cond.instanceMethod ({ cls := "CycleGroupsModel", name := "spread", desc := "(I)I" } : Jvm.MethodName) ∈ tg := tg_of (List.mem_append_right _ (List.mem_append_right _ (List.mem_append_left _ (List.mem_of_getElem? (l := tables_1_2) (i := 228) (by rfl))))) rfl
theorem w_469 : Jvm.Cond.selects "CycleGroupsModel" ({ cls := "CycleGroupsModel", name := "spread", desc := "(I)I" } : Jvm.MethodName) ({ cls := "CycleGroupsModel", name := "spread", desc := "(I)I" } : Jvm.MethodName) ∈ tg := tg_of (List.mem_append_right _ (List.mem_append_right _ (List.mem_append_left _ (List.mem_of_getElem? (l := tables_1_2) (i := 229) (by rfl))))) rfl
theorem w_470 : Jvm.Cond.code ({ cls := "CycleGroupsModel", name := "spread", desc := "(I)I" } : Jvm.MethodName) prog_7_method_25_code (2 : Nat) (Option.some Jvm.ClassFile.FieldType.int) ∈ tg := tg_of (List.mem_append_right _ (List.mem_append_right _ (List.mem_append_left _ (List.mem_of_getElem? (l := tables_1_2) (i := 230) (by rfl))))) rfl
theorem w_471 : Jvm.Cond.methodLink "CycleGroupsModel" (135 : Nat) ({ cls := "CycleGroupsModel", name := "know", desc := "()V" } : Jvm.MethodName) ∈ tg := tg_of (List.mem_append_right _ (List.mem_append_right _ (List.mem_append_left _ (List.mem_of_getElem? (l := tables_1_2) (i := 231) (by rfl))))) rfl
theorem w_473 : Jvm.Cond.instanceMethod ({ cls := "CycleGroupsModel", name := "know", desc := "()V" } : Jvm.MethodName) ∈ tg := tg_of (List.mem_append_right _ (List.mem_append_right _ (List.mem_append_left _ (List.mem_of_getElem? (l := tables_1_2) (i := 233) (by rfl))))) rfl
theorem w_474 : Jvm.Cond.code ({ cls := "CycleGroupsModel", name := "know", desc := "()V" } : Jvm.MethodName) prog_7_method_23_code (2 : Nat) (Option.none : Option Jvm.ClassFile.FieldType) ∈ tg := tg_of (List.mem_append_right _ (List.mem_append_right _ (List.mem_append_left _ (List.mem_of_getElem? (l := tables_1_2) (i := 234) (by rfl))))) rfl
theorem w_475 : Jvm.Cond.methodLink "CycleGroupsModel" (128 : Nat) ({ cls := "CycleGroupsModel", name := "spreadOf", desc := "(I)V" } : Jvm.MethodName) ∈ tg := tg_of (List.mem_append_right _ (List.mem_append_right _ (List.mem_append_left _ (List.mem_of_getElem? (l := tables_1_2) (i := 235) (by rfl))))) rfl
theorem w_477 : Jvm.Cond.instanceMethod ({ cls := "CycleGroupsModel", name := "spreadOf", desc := "(I)V" } : Jvm.MethodName) ∈ tg := tg_of (List.mem_append_right _ (List.mem_append_right _ (List.mem_append_left _ (List.mem_of_getElem? (l := tables_1_2) (i := 237) (by rfl))))) rfl
theorem w_478 : Jvm.Cond.code ({ cls := "CycleGroupsModel", name := "spreadOf", desc := "(I)V" } : Jvm.MethodName) prog_7_method_13_code (8 : Nat) (Option.none : Option Jvm.ClassFile.FieldType) ∈ tg := tg_of (List.mem_append_right _ (List.mem_append_right _ (List.mem_append_left _ (List.mem_of_getElem? (l := tables_1_2) (i := 238) (by rfl))))) rfl
theorem w_479 : Jvm.Cond.methodLink "CycleGroupsModel" (132 : Nat) ({ cls := "CycleGroupsModel", name := "nextPart", desc := "(I)V" } : Jvm.MethodName) ∈ tg := tg_of (List.mem_append_right _ (List.mem_append_right _ (List.mem_append_left _ (List.mem_of_getElem? (l := tables_1_2) (i := 239) (by rfl))))) rfl
theorem w_481 : Jvm.Cond.instanceMethod ({ cls := "CycleGroupsModel", name := "nextPart", desc := "(I)V" } : Jvm.MethodName) ∈ tg := tg_of (List.mem_append_right _ (List.mem_append_right _ (List.mem_append_right _ (List.mem_of_getElem? (l := tables_1_3) (i := 1) (by rfl))))) rfl
theorem w_482 : Jvm.Cond.code ({ cls := "CycleGroupsModel", name := "nextPart", desc := "(I)V" } : Jvm.MethodName) prog_7_method_22_code (5 : Nat) (Option.none : Option Jvm.ClassFile.FieldType) ∈ tg := tg_of (List.mem_append_right _ (List.mem_append_right _ (List.mem_append_right _ (List.mem_of_getElem? (l := tables_1_3) (i := 2) (by rfl))))) rfl
theorem w_483 : Jvm.Cond.methodLink "CycleGroupsModel" (122 : Nat) ({ cls := "CycleGroupsModel", name := "undo", desc := "(II)V" } : Jvm.MethodName) ∈ tg := tg_of (List.mem_append_right _ (List.mem_append_right _ (List.mem_append_right _ (List.mem_of_getElem? (l := tables_1_3) (i := 3) (by rfl))))) rfl
theorem w_485 : Jvm.Cond.instanceMethod ({ cls := "CycleGroupsModel", name := "undo", desc := "(II)V" } : Jvm.MethodName) ∈ tg := tg_of (List.mem_append_right _ (List.mem_append_right _ (List.mem_append_right _ (List.mem_of_getElem? (l := tables_1_3) (i := 5) (by rfl))))) rfl
theorem w_486 : Jvm.Cond.code ({ cls := "CycleGroupsModel", name := "undo", desc := "(II)V" } : Jvm.MethodName) prog_7_method_14_code (4 : Nat) (Option.none : Option Jvm.ClassFile.FieldType) ∈ tg := tg_of (List.mem_append_right _ (List.mem_append_right _ (List.mem_append_right _ (List.mem_of_getElem? (l := tables_1_3) (i := 6) (by rfl))))) rfl
theorem w_487 : Jvm.Cond.methodLink "CycleGroupsModel" (125 : Nat) ({ cls := "CycleGroupsModel", name := "keep", desc := "()V" } : Jvm.MethodName) ∈ tg := tg_of (List.mem_append_right _ (List.mem_append_right _ (List.mem_append_right _ (List.mem_of_getElem? (l := tables_1_3) (i := 7) (by rfl))))) rfl
theorem w_489 : Jvm.Cond.instanceMethod ({ cls := "CycleGroupsModel", name := "keep", desc := "()V" } : Jvm.MethodName) ∈ tg := tg_of (List.mem_append_right _ (List.mem_append_right _ (List.mem_append_right _ (List.mem_of_getElem? (l := tables_1_3) (i := 9) (by rfl))))) rfl
theorem w_490 : Jvm.Cond.code ({ cls := "CycleGroupsModel", name := "keep", desc := "()V" } : Jvm.MethodName) prog_7_method_19_code (13 : Nat) (Option.none : Option Jvm.ClassFile.FieldType) ∈ tg := tg_of (List.mem_append_right _ (List.mem_append_right _ (List.mem_append_right _ (List.mem_of_getElem? (l := tables_1_3) (i := 10) (by rfl))))) rfl
theorem w_491 : Jvm.Cond.methodLink "CycleGroupsModel" (100 : Nat) ({ cls := "CycleGroupsModel", name := "leastMoved", desc := "()I" } : Jvm.MethodName) ∈ tg := tg_of (List.mem_append_right _ (List.mem_append_right _ (List.mem_append_right _ (List.mem_of_getElem? (l := tables_1_3) (i := 11) (by rfl))))) rfl
theorem w_493 : Jvm.Cond.instanceMethod ({ cls := "CycleGroupsModel", name := "leastMoved", desc := "()I" } : Jvm.MethodName) ∈ tg := tg_of (List.mem_append_right _ (List.mem_append_right _ (List.mem_append_right _ (List.mem_of_getElem? (l := tables_1_3) (i := 13) (by rfl))))) rfl
theorem w_494 : Jvm.Cond.code ({ cls := "CycleGroupsModel", name := "leastMoved", desc := "()I" } : Jvm.MethodName) prog_7_method_15_code (2 : Nat) (Option.some Jvm.ClassFile.FieldType.int) ∈ tg := tg_of (List.mem_append_right _ (List.mem_append_right _ (List.mem_append_right _ (List.mem_of_getElem? (l := tables_1_3) (i := 14) (by rfl))))) rfl
theorem w_495 : Jvm.Cond.methodLink "CycleGroupsModel" (104 : Nat) ({ cls := "CycleGroupsModel", name := "walk", desc := "(II)Z" } : Jvm.MethodName) ∈ tg := tg_of (List.mem_append_right _ (List.mem_append_right _ (List.mem_append_right _ (List.mem_of_getElem? (l := tables_1_3) (i := 15) (by rfl))))) rfl
theorem w_497 : Jvm.Cond.instanceMethod ({ cls := "CycleGroupsModel", name := "walk", desc := "(II)Z" } : Jvm.MethodName) ∈ tg := tg_of (List.mem_append_right _ (List.mem_append_right _ (List.mem_append_right _ (List.mem_of_getElem? (l := tables_1_3) (i := 17) (by rfl))))) rfl
theorem w_498 : Jvm.Cond.code ({ cls := "CycleGroupsModel", name := "walk", desc := "(II)Z" } : Jvm.MethodName) prog_7_method_16_code (7 : Nat) (Option.some Jvm.ClassFile.FieldType.boolean) ∈ tg := tg_of (List.mem_append_right _ (List.mem_append_right _ (List.mem_append_right _ (List.mem_of_getElem? (l := tables_1_3) (i := 18) (by rfl))))) rfl
theorem w_499 : Jvm.Cond.methodLink "CycleGroupsModel" (108 : Nat) ({ cls := "CycleGroupsModel", name := "put", desc := "(II)V" } : Jvm.MethodName) ∈ tg := tg_of (List.mem_append_right _ (List.mem_append_right _ (List.mem_append_right _ (List.mem_of_getElem? (l := tables_1_3) (i := 19) (by rfl))))) rfl
theorem w_501 : Jvm.Cond.instanceMethod ({ cls := "CycleGroupsModel", name := "put", desc := "(II)V" } : Jvm.MethodName) ∈ tg := tg_of (List.mem_append_right _ (List.mem_append_right _ (List.mem_append_right _ (List.mem_of_getElem? (l := tables_1_3) (i := 21) (by rfl))))) rfl
theorem w_502 : Jvm.Cond.code ({ cls := "CycleGroupsModel", name := "put", desc := "(II)V" } : Jvm.MethodName) prog_7_method_17_code (5 : Nat) (Option.none : Option Jvm.ClassFile.FieldType) ∈ tg := tg_of (List.mem_append_right _ (List.mem_append_right _ (List.mem_append_right _ (List.mem_of_getElem? (l := tables_1_3) (i := 22) (by rfl))))) rfl
theorem w_503 : Jvm.Cond.methodLink "CycleGroupsModel" (111 : Nat) ({ cls := "CycleGroupsModel", name := "free", desc := "()I" } : Jvm.MethodName) ∈ tg := tg_of (List.mem_append_right _ (List.mem_append_right _ (List.mem_append_right _ (List.mem_of_getElem? (l := tables_1_3) (i := 23) (by rfl))))) rfl
theorem w_505 : Jvm.Cond.instanceMethod ({ cls := "CycleGroupsModel", name := "free", desc := "()I" } : Jvm.MethodName) ∈ tg := tg_of (List.mem_append_right _ (List.mem_append_right _ (List.mem_append_right _ (List.mem_of_getElem? (l := tables_1_3) (i := 25) (by rfl))))) rfl
theorem w_506 : Jvm.Cond.code ({ cls := "CycleGroupsModel", name := "free", desc := "()I" } : Jvm.MethodName) prog_7_method_20_code (2 : Nat) (Option.some Jvm.ClassFile.FieldType.int) ∈ tg := tg_of (List.mem_append_right _ (List.mem_append_right _ (List.mem_append_right _ (List.mem_of_getElem? (l := tables_1_3) (i := 26) (by rfl))))) rfl
theorem w_507 : Jvm.Cond.methodLink "CycleGroupsModel" (114 : Nat) ({ cls := "CycleGroupsModel", name := "edgeBetween", desc := "(III)I" } : Jvm.MethodName) ∈ tg := tg_of (List.mem_append_right _ (List.mem_append_right _ (List.mem_append_right _ (List.mem_of_getElem? (l := tables_1_3) (i := 27) (by rfl))))) rfl
theorem w_509 : Jvm.Cond.instanceMethod ({ cls := "CycleGroupsModel", name := "edgeBetween", desc := "(III)I" } : Jvm.MethodName) ∈ tg := tg_of (List.mem_append_right _ (List.mem_append_right _ (List.mem_append_right _ (List.mem_of_getElem? (l := tables_1_3) (i := 29) (by rfl))))) rfl
theorem w_510 : Jvm.Cond.code ({ cls := "CycleGroupsModel", name := "edgeBetween", desc := "(III)I" } : Jvm.MethodName) prog_7_method_21_code (5 : Nat) (Option.some Jvm.ClassFile.FieldType.int) ∈ tg := tg_of (List.mem_append_right _ (List.mem_append_right _ (List.mem_append_right _ (List.mem_of_getElem? (l := tables_1_3) (i := 30) (by rfl))))) rfl
theorem w_511 : Jvm.Cond.methodLink "CycleGroupsModel" (118 : Nat) ({ cls := "CycleGroupsModel", name := "along", desc := "(IZ)V" } : Jvm.MethodName) ∈ tg := tg_of (List.mem_append_right _ (List.mem_append_right _ (List.mem_append_right _ (List.mem_of_getElem? (l := tables_1_3) (i := 31) (by rfl))))) rfl
theorem w_513 : Jvm.Cond.instanceMethod ({ cls := "CycleGroupsModel", name := "along", desc := "(IZ)V" } : Jvm.MethodName) ∈ tg := tg_of (List.mem_append_right _ (List.mem_append_right _ (List.mem_append_right _ (List.mem_of_getElem? (l := tables_1_3) (i := 33) (by rfl))))) rfl
theorem w_514 : Jvm.Cond.code ({ cls := "CycleGroupsModel", name := "along", desc := "(IZ)V" } : Jvm.MethodName) prog_7_method_18_code (4 : Nat) (Option.none : Option Jvm.ClassFile.FieldType) ∈ tg := tg_of (List.mem_append_right _ (List.mem_append_right _ (List.mem_append_right _ (List.mem_of_getElem? (l := tables_1_3) (i := 34) (by rfl))))) rfl
theorem w_515 : Jvm.Cond.methodLink "CycleGroupsModel" (138 : Nat) ({ cls := "CycleGroupsModel", name := "spreadSize", desc := "(I)I" } : Jvm.MethodName) ∈ tg := tg_of (List.mem_append_right _ (List.mem_append_right _ (List.mem_append_right _ (List.mem_of_getElem? (l := tables_1_3) (i := 35) (by rfl))))) rfl
theorem w_517 : Jvm.Cond.instanceMethod ({ cls := "CycleGroupsModel", name := "spreadSize", desc := "(I)I" } : Jvm.MethodName) ∈ tg := tg_of (List.mem_append_right _ (List.mem_append_right _ (List.mem_append_right _ (List.mem_of_getElem? (l := tables_1_3) (i := 37) (by rfl))))) rfl
theorem w_518 : Jvm.Cond.code ({ cls := "CycleGroupsModel", name := "spreadSize", desc := "(I)I" } : Jvm.MethodName) prog_7_method_24_code (4 : Nat) (Option.some Jvm.ClassFile.FieldType.int) ∈ tg := tg_of (List.mem_append_right _ (List.mem_append_right _ (List.mem_append_right _ (List.mem_of_getElem? (l := tables_1_3) (i := 38) (by rfl))))) rfl
theorem w_519 : Jvm.Cond.methodLink "CycleGroupsLaw" (34 : Nat) ({ cls := "CycleGroupsModel", name := "run", desc := "()I" } : Jvm.MethodName) ∈ tg := tg_of (List.mem_append_right _ (List.mem_append_right _ (List.mem_append_right _ (List.mem_of_getElem? (l := tables_1_3) (i := 39) (by rfl))))) rfl
theorem w_520 : Jvm.Cond.instanceMethod ({ cls := "CycleGroupsModel", name := "run", desc := "()I" } : Jvm.MethodName) ∈ tg := tg_of (List.mem_append_right _ (List.mem_append_right _ (List.mem_append_right _ (List.mem_of_getElem? (l := tables_1_3) (i := 40) (by rfl))))) rfl
theorem w_521 : Jvm.Cond.selects "CycleGroupsModel" ({ cls := "CycleGroupsModel", name := "run", desc := "()I" } : Jvm.MethodName) ({ cls := "CycleGroupsModel", name := "run", desc := "()I" } : Jvm.MethodName) ∈ tg := tg_of (List.mem_append_right _ (List.mem_append_right _ (List.mem_append_right _ (List.mem_of_getElem? (l := tables_1_3) (i := 41) (by rfl))))) rfl
theorem w_522 : Jvm.Cond.code ({ cls := "CycleGroupsModel", name := "run", desc := "()I" } : Jvm.MethodName) prog_7_method_26_code (3 : Nat) (Option.some Jvm.ClassFile.FieldType.int) ∈ tg := tg_of (List.mem_append_right _ (List.mem_append_right _ (List.mem_append_right _ (List.mem_of_getElem? (l := tables_1_3) (i := 42) (by rfl))))) rfl
theorem w_523 : Jvm.Cond.methodLink "CycleGroupsLaw" (39 : Nat) ({ cls := "CycleGroupsModel", name := "base", desc := "(I)I" } : Jvm.MethodName) ∈ tg := tg_of (List.mem_append_right _ (List.mem_append_right _ (List.mem_append_right _ (List.mem_of_getElem? (l := tables_1_3) (i := 43) (by rfl))))) rfl
theorem w_524 : Jvm.Cond.instanceMethod ({ cls := "CycleGroupsModel", name := "base", desc := "(I)I" } : Jvm.MethodName) ∈ tg := tg_of (List.mem_append_right _ (List.mem_append_right _ (List.mem_append_right _ (List.mem_of_getElem? (l := tables_1_3) (i := 44) (by rfl))))) rfl
theorem w_525 : Jvm.Cond.selects "CycleGroupsModel" ({ cls := "CycleGroupsModel", name := "base", desc := "(I)I" } : Jvm.MethodName) ({ cls := "CycleGroupsModel", name := "base", desc := "(I)I" } : Jvm.MethodName) ∈ tg := tg_of (List.mem_append_right _ (List.mem_append_right _ (List.mem_append_right _ (List.mem_of_getElem? (l := tables_1_3) (i := 45) (by rfl))))) rfl
theorem w_526 : Jvm.Cond.code ({ cls := "CycleGroupsModel", name := "base", desc := "(I)I" } : Jvm.MethodName) prog_7_method_27_code (4 : Nat) (Option.some Jvm.ClassFile.FieldType.int) ∈ tg := tg_of (List.mem_append_right _ (List.mem_append_right _ (List.mem_append_right _ (List.mem_of_getElem? (l := tables_1_3) (i := 46) (by rfl))))) rfl
theorem w_527 : Jvm.Cond.methodLink "CycleGroupsLaw" (47 : Nat) ({ cls := "CycleGroupsModel", name := "order", desc := "(I)I" } : Jvm.MethodName) ∈ tg := tg_of (List.mem_append_right _ (List.mem_append_right _ (List.mem_append_right _ (List.mem_of_getElem? (l := tables_1_3) (i := 47) (by rfl))))) rfl
theorem w_528 : Jvm.Cond.instanceMethod ({ cls := "CycleGroupsModel", name := "order", desc := "(I)I" } : Jvm.MethodName) ∈ tg := tg_of (List.mem_append_right _ (List.mem_append_right _ (List.mem_append_right _ (List.mem_of_getElem? (l := tables_1_3) (i := 48) (by rfl))))) rfl
theorem w_529 : Jvm.Cond.selects "CycleGroupsModel" ({ cls := "CycleGroupsModel", name := "order", desc := "(I)I" } : Jvm.MethodName) ({ cls := "CycleGroupsModel", name := "order", desc := "(I)I" } : Jvm.MethodName) ∈ tg := tg_of (List.mem_append_right _ (List.mem_append_right _ (List.mem_append_right _ (List.mem_of_getElem? (l := tables_1_3) (i := 49) (by rfl))))) rfl
theorem w_530 : Jvm.Cond.code ({ cls := "CycleGroupsModel", name := "order", desc := "(I)I" } : Jvm.MethodName) prog_7_method_29_code (2 : Nat) (Option.some Jvm.ClassFile.FieldType.int) ∈ tg := tg_of (List.mem_append_right _ (List.mem_append_right _ (List.mem_append_right _ (List.mem_of_getElem? (l := tables_1_3) (i := 50) (by rfl))))) rfl
theorem w_531 : Jvm.Cond.methodLink "CycleGroupsModel" (142 : Nat) ({ cls := "CycleGroupsModel", name := "digitOf", desc := "(II)I" } : Jvm.MethodName) ∈ tg := tg_of (List.mem_append_right _ (List.mem_append_right _ (List.mem_append_right _ (List.mem_of_getElem? (l := tables_1_3) (i := 51) (by rfl))))) rfl
theorem w_533 : Jvm.Cond.instanceMethod ({ cls := "CycleGroupsModel", name := "digitOf", desc := "(II)I" } : Jvm.MethodName) ∈ tg := tg_of (List.mem_append_right _ (List.mem_append_right _ (List.mem_append_right _ (List.mem_of_getElem? (l := tables_1_3) (i := 53) (by rfl))))) rfl
theorem w_534 : Jvm.Cond.code ({ cls := "CycleGroupsModel", name := "digitOf", desc := "(II)I" } : Jvm.MethodName) prog_7_method_28_code (7 : Nat) (Option.some Jvm.ClassFile.FieldType.int) ∈ tg := tg_of (List.mem_append_right _ (List.mem_append_right _ (List.mem_append_right _ (List.mem_of_getElem? (l := tables_1_3) (i := 54) (by rfl))))) rfl
theorem w_535 : Jvm.Cond.methodLink "CycleGroupsLaw" (56 : Nat) ({ cls := "CycleGroupsModel", name := "orbit", desc := "(I)I" } : Jvm.MethodName) ∈ tg := tg_of (List.mem_append_right _ (List.mem_append_right _ (List.mem_append_right _ (List.mem_of_getElem? (l := tables_1_3) (i := 55) (by rfl))))) rfl
theorem w_536 : Jvm.Cond.instanceMethod ({ cls := "CycleGroupsModel", name := "orbit", desc := "(I)I" } : Jvm.MethodName) ∈ tg := tg_of (List.mem_append_right _ (List.mem_append_right _ (List.mem_append_right _ (List.mem_of_getElem? (l := tables_1_3) (i := 56) (by rfl))))) rfl
theorem w_537 : Jvm.Cond.selects "CycleGroupsModel" ({ cls := "CycleGroupsModel", name := "orbit", desc := "(I)I" } : Jvm.MethodName) ({ cls := "CycleGroupsModel", name := "orbit", desc := "(I)I" } : Jvm.MethodName) ∈ tg := tg_of (List.mem_append_right _ (List.mem_append_right _ (List.mem_append_right _ (List.mem_of_getElem? (l := tables_1_3) (i := 57) (by rfl))))) rfl
theorem w_538 : Jvm.Cond.code ({ cls := "CycleGroupsModel", name := "orbit", desc := "(I)I" } : Jvm.MethodName) prog_7_method_34_code (2 : Nat) (Option.some Jvm.ClassFile.FieldType.int) ∈ tg := tg_of (List.mem_append_right _ (List.mem_append_right _ (List.mem_append_right _ (List.mem_of_getElem? (l := tables_1_3) (i := 58) (by rfl))))) rfl
theorem w_539 : Jvm.Cond.methodLink "CycleGroupsModel" (152 : Nat) ({ cls := "CycleGroupsModel", name := "orbits", desc := "()V" } : Jvm.MethodName) ∈ tg := tg_of (List.mem_append_right _ (List.mem_append_right _ (List.mem_append_right _ (List.mem_of_getElem? (l := tables_1_3) (i := 59) (by rfl))))) rfl
theorem w_541 : Jvm.Cond.instanceMethod ({ cls := "CycleGroupsModel", name := "orbits", desc := "()V" } : Jvm.MethodName) ∈ tg := tg_of (List.mem_append_right _ (List.mem_append_right _ (List.mem_append_right _ (List.mem_of_getElem? (l := tables_1_3) (i := 61) (by rfl))))) rfl
theorem w_542 : Jvm.Cond.code ({ cls := "CycleGroupsModel", name := "orbits", desc := "()V" } : Jvm.MethodName) prog_7_method_32_code (3 : Nat) (Option.none : Option Jvm.ClassFile.FieldType) ∈ tg := tg_of (List.mem_append_right _ (List.mem_append_right _ (List.mem_append_right _ (List.mem_of_getElem? (l := tables_1_3) (i := 62) (by rfl))))) rfl
theorem w_543 : Jvm.Cond.methodLink "CycleGroupsModel" (146 : Nat) ({ cls := "CycleGroupsModel", name := "share", desc := "()V" } : Jvm.MethodName) ∈ tg := tg_of (List.mem_append_right _ (List.mem_append_right _ (List.mem_append_right _ (List.mem_of_getElem? (l := tables_1_3) (i := 63) (by rfl))))) rfl
theorem w_545 : Jvm.Cond.instanceMethod ({ cls := "CycleGroupsModel", name := "share", desc := "()V" } : Jvm.MethodName) ∈ tg := tg_of (List.mem_append_right _ (List.mem_append_right _ (List.mem_append_right _ (List.mem_of_getElem? (l := tables_1_3) (i := 65) (by rfl))))) rfl
theorem w_546 : Jvm.Cond.code ({ cls := "CycleGroupsModel", name := "share", desc := "()V" } : Jvm.MethodName) prog_7_method_30_code (2 : Nat) (Option.none : Option Jvm.ClassFile.FieldType) ∈ tg := tg_of (List.mem_append_right _ (List.mem_append_right _ (List.mem_append_right _ (List.mem_of_getElem? (l := tables_1_3) (i := 66) (by rfl))))) rfl
theorem w_547 : Jvm.Cond.methodLink "CycleGroupsModel" (149 : Nat) ({ cls := "CycleGroupsModel", name := "joinSets", desc := "(II)Z" } : Jvm.MethodName) ∈ tg := tg_of (List.mem_append_right _ (List.mem_append_right _ (List.mem_append_right _ (List.mem_of_getElem? (l := tables_1_3) (i := 67) (by rfl))))) rfl
theorem w_549 : Jvm.Cond.instanceMethod ({ cls := "CycleGroupsModel", name := "joinSets", desc := "(II)Z" } : Jvm.MethodName) ∈ tg := tg_of (List.mem_append_right _ (List.mem_append_right _ (List.mem_append_right _ (List.mem_of_getElem? (l := tables_1_3) (i := 69) (by rfl))))) rfl
theorem w_550 : Jvm.Cond.code ({ cls := "CycleGroupsModel", name := "joinSets", desc := "(II)Z" } : Jvm.MethodName) prog_7_method_31_code (6 : Nat) (Option.some Jvm.ClassFile.FieldType.boolean) ∈ tg := tg_of (List.mem_append_right _ (List.mem_append_right _ (List.mem_append_right _ (List.mem_of_getElem? (l := tables_1_3) (i := 70) (by rfl))))) rfl
theorem w_551 : Jvm.Cond.methodLink "CycleGroupsLaw" (52 : Nat) ({ cls := "CycleGroupsModel", name := "stabiliser", desc := "(II)I" } : Jvm.MethodName) ∈ tg := tg_of (List.mem_append_right _ (List.mem_append_right _ (List.mem_append_right _ (List.mem_of_getElem? (l := tables_1_3) (i := 71) (by rfl))))) rfl
theorem w_552 : Jvm.Cond.instanceMethod ({ cls := "CycleGroupsModel", name := "stabiliser", desc := "(II)I" } : Jvm.MethodName) ∈ tg := tg_of (List.mem_append_right _ (List.mem_append_right _ (List.mem_append_right _ (List.mem_of_getElem? (l := tables_1_3) (i := 72) (by rfl))))) rfl
theorem w_553 : Jvm.Cond.selects "CycleGroupsModel" ({ cls := "CycleGroupsModel", name := "stabiliser", desc := "(II)I" } : Jvm.MethodName) ({ cls := "CycleGroupsModel", name := "stabiliser", desc := "(II)I" } : Jvm.MethodName) ∈ tg := tg_of (List.mem_append_right _ (List.mem_append_right _ (List.mem_append_right _ (List.mem_of_getElem? (l := tables_1_3) (i := 73) (by rfl))))) rfl
theorem w_554 : Jvm.Cond.code ({ cls := "CycleGroupsModel", name := "stabiliser", desc := "(II)I" } : Jvm.MethodName) prog_7_method_35_code (3 : Nat) (Option.some Jvm.ClassFile.FieldType.int) ∈ tg := tg_of (List.mem_append_right _ (List.mem_append_right _ (List.mem_append_right _ (List.mem_of_getElem? (l := tables_1_3) (i := 74) (by rfl))))) rfl
theorem w_555 : Jvm.Cond.methodLink "CycleGroupsModel" (155 : Nat) ({ cls := "CycleGroupsModel", name := "sizeOf", desc := "(I)I" } : Jvm.MethodName) ∈ tg := tg_of (List.mem_append_right _ (List.mem_append_right _ (List.mem_append_right _ (List.mem_of_getElem? (l := tables_1_3) (i := 75) (by rfl))))) rfl
theorem w_557 : Jvm.Cond.instanceMethod ({ cls := "CycleGroupsModel", name := "sizeOf", desc := "(I)I" } : Jvm.MethodName) ∈ tg := tg_of (List.mem_append_right _ (List.mem_append_right _ (List.mem_append_right _ (List.mem_of_getElem? (l := tables_1_3) (i := 77) (by rfl))))) rfl
theorem w_558 : Jvm.Cond.code ({ cls := "CycleGroupsModel", name := "sizeOf", desc := "(I)I" } : Jvm.MethodName) prog_7_method_33_code (4 : Nat) (Option.some Jvm.ClassFile.FieldType.int) ∈ tg := tg_of (List.mem_append_right _ (List.mem_append_right _ (List.mem_append_right _ (List.mem_of_getElem? (l := tables_1_3) (i := 78) (by rfl))))) rfl
theorem w_559 : Jvm.Cond.methodLink "CycleGroupsLaw" (60 : Nat) ({ cls := "CycleGroupsModel", name := "block", desc := "(II)I" } : Jvm.MethodName) ∈ tg := tg_of (List.mem_append_right _ (List.mem_append_right _ (List.mem_append_right _ (List.mem_of_getElem? (l := tables_1_3) (i := 79) (by rfl))))) rfl
theorem w_560 : Jvm.Cond.instanceMethod ({ cls := "CycleGroupsModel", name := "block", desc := "(II)I" } : Jvm.MethodName) ∈ tg := tg_of (List.mem_append_right _ (List.mem_append_right _ (List.mem_append_right _ (List.mem_of_getElem? (l := tables_1_3) (i := 80) (by rfl))))) rfl
theorem w_561 : Jvm.Cond.selects "CycleGroupsModel" ({ cls := "CycleGroupsModel", name := "block", desc := "(II)I" } : Jvm.MethodName) ({ cls := "CycleGroupsModel", name := "block", desc := "(II)I" } : Jvm.MethodName) ∈ tg := tg_of (List.mem_append_right _ (List.mem_append_right _ (List.mem_append_right _ (List.mem_of_getElem? (l := tables_1_3) (i := 81) (by rfl))))) rfl
theorem w_562 : Jvm.Cond.code ({ cls := "CycleGroupsModel", name := "block", desc := "(II)I" } : Jvm.MethodName) prog_7_method_36_code (6 : Nat) (Option.some Jvm.ClassFile.FieldType.int) ∈ tg := tg_of (List.mem_append_right _ (List.mem_append_right _ (List.mem_append_right _ (List.mem_of_getElem? (l := tables_1_3) (i := 82) (by rfl))))) rfl
theorem w_563 : Jvm.Cond.methodLink "CycleGroupsLaw" (92 : Nat) ({ cls := "CycleGroupsModel", name := "level", desc := "(I)I" } : Jvm.MethodName) ∈ tg := tg_of (List.mem_append_right _ (List.mem_append_right _ (List.mem_append_right _ (List.mem_of_getElem? (l := tables_1_3) (i := 83) (by rfl))))) rfl
theorem w_564 : Jvm.Cond.instanceMethod ({ cls := "CycleGroupsModel", name := "level", desc := "(I)I" } : Jvm.MethodName) ∈ tg := tg_of (List.mem_append_right _ (List.mem_append_right _ (List.mem_append_right _ (List.mem_of_getElem? (l := tables_1_3) (i := 84) (by rfl))))) rfl
theorem w_565 : Jvm.Cond.selects "CycleGroupsModel" ({ cls := "CycleGroupsModel", name := "level", desc := "(I)I" } : Jvm.MethodName) ({ cls := "CycleGroupsModel", name := "level", desc := "(I)I" } : Jvm.MethodName) ∈ tg := tg_of (List.mem_append_right _ (List.mem_append_right _ (List.mem_append_right _ (List.mem_of_getElem? (l := tables_1_3) (i := 85) (by rfl))))) rfl
theorem w_566 : Jvm.Cond.code ({ cls := "CycleGroupsModel", name := "level", desc := "(I)I" } : Jvm.MethodName) prog_7_method_37_code (3 : Nat) (Option.some Jvm.ClassFile.FieldType.int) ∈ tg := tg_of (List.mem_append_right _ (List.mem_append_right _ (List.mem_append_right _ (List.mem_of_getElem? (l := tables_1_3) (i := 86) (by rfl))))) rfl
theorem w_567 : Jvm.Cond.methodLink "CycleGroupsLaw" (88 : Nat) ({ cls := "CycleGroupsModel", name := "member", desc := "(I)I" } : Jvm.MethodName) ∈ tg := tg_of (List.mem_append_right _ (List.mem_append_right _ (List.mem_append_right _ (List.mem_of_getElem? (l := tables_1_3) (i := 87) (by rfl))))) rfl
theorem w_568 : Jvm.Cond.instanceMethod ({ cls := "CycleGroupsModel", name := "member", desc := "(I)I" } : Jvm.MethodName) ∈ tg := tg_of (List.mem_append_right _ (List.mem_append_right _ (List.mem_append_right _ (List.mem_of_getElem? (l := tables_1_3) (i := 88) (by rfl))))) rfl
theorem w_569 : Jvm.Cond.selects "CycleGroupsModel" ({ cls := "CycleGroupsModel", name := "member", desc := "(I)I" } : Jvm.MethodName) ({ cls := "CycleGroupsModel", name := "member", desc := "(I)I" } : Jvm.MethodName) ∈ tg := tg_of (List.mem_append_right _ (List.mem_append_right _ (List.mem_append_right _ (List.mem_of_getElem? (l := tables_1_3) (i := 89) (by rfl))))) rfl
theorem w_570 : Jvm.Cond.code ({ cls := "CycleGroupsModel", name := "member", desc := "(I)I" } : Jvm.MethodName) prog_7_method_38_code (3 : Nat) (Option.some Jvm.ClassFile.FieldType.int) ∈ tg := tg_of (List.mem_append_right _ (List.mem_append_right _ (List.mem_append_right _ (List.mem_of_getElem? (l := tables_1_3) (i := 90) (by rfl))))) rfl
theorem w_571 : Jvm.Cond.methodLink "CycleGroupsModel" (158 : Nat) ({ cls := "CycleGroupsModel", name := "level", desc := "(I)I" } : Jvm.MethodName) ∈ tg := tg_of (List.mem_append_right _ (List.mem_append_right _ (List.mem_append_right _ (List.mem_of_getElem? (l := tables_1_3) (i := 91) (by rfl))))) rfl
theorem w_572 : Jvm.Cond.methodLink "CycleGroupsLaw" (96 : Nat) ({ cls := "CycleGroupsModel", name := "parity", desc := "(I)I" } : Jvm.MethodName) ∈ tg := tg_of (List.mem_append_right _ (List.mem_append_right _ (List.mem_append_right _ (List.mem_of_getElem? (l := tables_1_3) (i := 92) (by rfl))))) rfl
theorem w_573 : Jvm.Cond.instanceMethod ({ cls := "CycleGroupsModel", name := "parity", desc := "(I)I" } : Jvm.MethodName) ∈ tg := tg_of (List.mem_append_right _ (List.mem_append_right _ (List.mem_append_right _ (List.mem_of_getElem? (l := tables_1_3) (i := 93) (by rfl))))) rfl
theorem w_574 : Jvm.Cond.selects "CycleGroupsModel" ({ cls := "CycleGroupsModel", name := "parity", desc := "(I)I" } : Jvm.MethodName) ({ cls := "CycleGroupsModel", name := "parity", desc := "(I)I" } : Jvm.MethodName) ∈ tg := tg_of (List.mem_append_right _ (List.mem_append_right _ (List.mem_append_right _ (List.mem_of_getElem? (l := tables_1_3) (i := 94) (by rfl))))) rfl
theorem w_575 : Jvm.Cond.code ({ cls := "CycleGroupsModel", name := "parity", desc := "(I)I" } : Jvm.MethodName) prog_7_method_40_code (5 : Nat) (Option.some Jvm.ClassFile.FieldType.int) ∈ tg := tg_of (List.mem_append_right _ (List.mem_append_right _ (List.mem_append_right _ (List.mem_of_getElem? (l := tables_1_3) (i := 95) (by rfl))))) rfl
theorem w_576 : Jvm.Cond.methodLink "CycleGroupsLaw" (101 : Nat) ({ cls := "CycleGroupsModel", name := "times", desc := "(I)J" } : Jvm.MethodName) ∈ tg := tg_of (List.mem_append_right _ (List.mem_append_right _ (List.mem_append_right _ (List.mem_of_getElem? (l := tables_1_3) (i := 96) (by rfl))))) rfl
theorem w_577 : Jvm.Cond.instanceMethod ({ cls := "CycleGroupsModel", name := "times", desc := "(I)J" } : Jvm.MethodName) ∈ tg := tg_of (List.mem_append_right _ (List.mem_append_right _ (List.mem_append_right _ (List.mem_of_getElem? (l := tables_1_3) (i := 97) (by rfl))))) rfl
theorem w_578 : Jvm.Cond.selects "CycleGroupsModel" ({ cls := "CycleGroupsModel", name := "times", desc := "(I)J" } : Jvm.MethodName) ({ cls := "CycleGroupsModel", name := "times", desc := "(I)J" } : Jvm.MethodName) ∈ tg := tg_of (List.mem_append_right _ (List.mem_append_right _ (List.mem_append_right _ (List.mem_of_getElem? (l := tables_1_3) (i := 98) (by rfl))))) rfl
theorem w_579 : Jvm.Cond.code ({ cls := "CycleGroupsModel", name := "times", desc := "(I)J" } : Jvm.MethodName) prog_7_method_41_code (6 : Nat) (Option.some Jvm.ClassFile.FieldType.long) ∈ tg := tg_of (List.mem_append_right _ (List.mem_append_right _ (List.mem_append_right _ (List.mem_of_getElem? (l := tables_1_3) (i := 99) (by rfl))))) rfl
theorem w_580 : Jvm.Cond.methodLink "CycleGroupsModel" (161 : Nat) ({ cls := "CycleGroupsModel", name := "roundOf", desc := "(II)I" } : Jvm.MethodName) ∈ tg := tg_of (List.mem_append_right _ (List.mem_append_right _ (List.mem_append_right _ (List.mem_of_getElem? (l := tables_1_3) (i := 100) (by rfl))))) rfl
theorem w_582 : Jvm.Cond.instanceMethod ({ cls := "CycleGroupsModel", name := "roundOf", desc := "(II)I" } : Jvm.MethodName) ∈ tg := tg_of (List.mem_append_right _ (List.mem_append_right _ (List.mem_append_right _ (List.mem_of_getElem? (l := tables_1_3) (i := 102) (by rfl))))) rfl
theorem w_583 : Jvm.Cond.code ({ cls := "CycleGroupsModel", name := "roundOf", desc := "(II)I" } : Jvm.MethodName) prog_7_method_39_code (5 : Nat) (Option.some Jvm.ClassFile.FieldType.int) ∈ tg := tg_of (List.mem_append_right _ (List.mem_append_right _ (List.mem_append_right _ (List.mem_of_getElem? (l := tables_1_3) (i := 103) (by rfl))))) rfl
theorem w_584 : Jvm.Cond.constantLong "CycleGroupsLaw" (74 : Nat) (4294967295 : Int64) ∈ tg := tg_of (List.mem_append_right _ (List.mem_append_right _ (List.mem_append_right _ (List.mem_of_getElem? (l := tables_1_3) (i := 104) (by rfl))))) rfl
abbrev b_C_init : ByteArray := prog_1_method_1_code
def y_C_init : MethodName := ⟨"CycleGroups", "<init>", "(I)V"⟩
abbrev b_C_move : ByteArray := prog_1_method_2_code
def y_C_move : MethodName := ⟨"CycleGroups", "move", "()I"⟩
abbrev b_C_cycle : ByteArray := prog_1_method_3_code
def y_C_cycle : MethodName := ⟨"CycleGroups", "cycle", "(III)Z"⟩
abbrev b_C_run : ByteArray := prog_1_method_4_code
def y_C_run : MethodName := ⟨"CycleGroups", "run", "()I"⟩
abbrev b_C_base : ByteArray := prog_1_method_5_code
def y_C_base : MethodName := ⟨"CycleGroups", "base", "(I)I"⟩
abbrev b_C_spread : ByteArray := prog_1_method_6_code
def y_C_spread : MethodName := ⟨"CycleGroups", "spread", "(I)I"⟩
abbrev b_C_order : ByteArray := prog_1_method_7_code
def y_C_order : MethodName := ⟨"CycleGroups", "order", "(I)I"⟩
abbrev b_C_stabiliser : ByteArray := prog_1_method_8_code
def y_C_stabiliser : MethodName := ⟨"CycleGroups", "stabiliser", "(II)I"⟩
abbrev b_C_orbit : ByteArray := prog_1_method_9_code
def y_C_orbit : MethodName := ⟨"CycleGroups", "orbit", "(I)I"⟩
abbrev b_C_block : ByteArray := prog_1_method_10_code
def y_C_block : MethodName := ⟨"CycleGroups", "block", "(II)I"⟩
abbrev b_C_state : ByteArray := prog_1_method_11_code
def y_C_state : MethodName := ⟨"CycleGroups", "state", "()I"⟩
abbrev b_C_apply : ByteArray := prog_1_method_12_code
def y_C_apply : MethodName := ⟨"CycleGroups", "apply", "(II)Z"⟩
abbrev b_C_exchange : ByteArray := prog_1_method_13_code
def y_C_exchange : MethodName := ⟨"CycleGroups", "exchange", "(III)Z"⟩
abbrev b_C_scramble : ByteArray := prog_1_method_14_code
def y_C_scramble : MethodName := ⟨"CycleGroups", "scramble", "(IJI)Z"⟩
abbrev b_C_image : ByteArray := prog_1_method_15_code
def y_C_image : MethodName := ⟨"CycleGroups", "image", "(II)I"⟩
abbrev b_C_member : ByteArray := prog_1_method_16_code
def y_C_member : MethodName := ⟨"CycleGroups", "member", "(I)I"⟩
abbrev b_C_level : ByteArray := prog_1_method_17_code
def y_C_level : MethodName := ⟨"CycleGroups", "level", "(I)I"⟩
abbrev b_C_parity : ByteArray := prog_1_method_18_code
def y_C_parity : MethodName := ⟨"CycleGroups", "parity", "(I)I"⟩
abbrev b_C_times : ByteArray := prog_1_method_19_code
def y_C_times : MethodName := ⟨"CycleGroups", "times", "(I)J"⟩
abbrev b_C_isPlace : ByteArray := prog_1_method_20_code
def y_C_isPlace : MethodName := ⟨"CycleGroups", "isPlace", "(I)Z"⟩
abbrev b_C_isMove : ByteArray := prog_1_method_21_code
def y_C_isMove : MethodName := ⟨"CycleGroups", "isMove", "(I)Z"⟩
abbrev b_C_isState : ByteArray := prog_1_method_22_code
def y_C_isState : MethodName := ⟨"CycleGroups", "isState", "(I)Z"⟩
abbrev b_C_freshChain : ByteArray := prog_1_method_23_code
def y_C_freshChain : MethodName := ⟨"CycleGroups", "freshChain", "()LCycleGroups$Chain;"⟩
abbrev b_C_countGroup : ByteArray := prog_1_method_24_code
def y_C_countGroup : MethodName := ⟨"CycleGroups", "countGroup", "(LCycleGroups$Chain;)V"⟩
abbrev b_C_leaveAll : ByteArray := prog_1_method_25_code
def y_C_leaveAll : MethodName := ⟨"CycleGroups", "leaveAll", "([I)V"⟩
abbrev b_C_follow : ByteArray := prog_1_method_26_code
def y_C_follow : MethodName := ⟨"CycleGroups", "follow", "([I[I)V"⟩
abbrev b_C_returnTime : ByteArray := prog_1_method_27_code
def y_C_returnTime : MethodName := ⟨"CycleGroups", "returnTime", "([II)I"⟩
abbrev b_C_leastMultiple : ByteArray := prog_1_method_28_code
def y_C_leastMultiple : MethodName := ⟨"CycleGroups", "leastMultiple", "(JI)J"⟩
abbrev b_M_init : ByteArray := prog_7_method_1_code
def y_M_init : MethodName := ⟨"CycleGroupsModel", "<init>", "(I)V"⟩
abbrev b_M_isPlace : ByteArray := prog_7_method_3_code
def y_M_isPlace : MethodName := ⟨"CycleGroupsModel", "isPlace", "(I)Z"⟩
abbrev b_M_isState : ByteArray := prog_7_method_4_code
def y_M_isState : MethodName := ⟨"CycleGroupsModel", "isState", "(I)Z"⟩
abbrev b_M_move : ByteArray := prog_7_method_5_code
def y_M_move : MethodName := ⟨"CycleGroupsModel", "move", "()I"⟩
abbrev b_M_cycle : ByteArray := prog_7_method_6_code
def y_M_cycle : MethodName := ⟨"CycleGroupsModel", "cycle", "(III)Z"⟩
abbrev b_M_state : ByteArray := prog_7_method_7_code
def y_M_state : MethodName := ⟨"CycleGroupsModel", "state", "()I"⟩
abbrev b_M_applyMove : ByteArray := prog_7_method_8_code
def y_M_applyMove : MethodName := ⟨"CycleGroupsModel", "applyMove", "(II)V"⟩
abbrev b_M_apply : ByteArray := prog_7_method_9_code
def y_M_apply : MethodName := ⟨"CycleGroupsModel", "apply", "(II)Z"⟩
abbrev b_M_exchange : ByteArray := prog_7_method_10_code
def y_M_exchange : MethodName := ⟨"CycleGroupsModel", "exchange", "(III)Z"⟩
abbrev b_M_scramble : ByteArray := prog_7_method_11_code
def y_M_scramble : MethodName := ⟨"CycleGroupsModel", "scramble", "(IJI)Z"⟩
abbrev b_M_image : ByteArray := prog_7_method_12_code
def y_M_image : MethodName := ⟨"CycleGroupsModel", "image", "(II)I"⟩
abbrev b_M_spreadOf : ByteArray := prog_7_method_13_code
def y_M_spreadOf : MethodName := ⟨"CycleGroupsModel", "spreadOf", "(I)V"⟩
abbrev b_M_undo : ByteArray := prog_7_method_14_code
def y_M_undo : MethodName := ⟨"CycleGroupsModel", "undo", "(II)V"⟩
abbrev b_M_leastMoved : ByteArray := prog_7_method_15_code
def y_M_leastMoved : MethodName := ⟨"CycleGroupsModel", "leastMoved", "()I"⟩
abbrev b_M_walk : ByteArray := prog_7_method_16_code
def y_M_walk : MethodName := ⟨"CycleGroupsModel", "walk", "(II)Z"⟩
abbrev b_M_put : ByteArray := prog_7_method_17_code
def y_M_put : MethodName := ⟨"CycleGroupsModel", "put", "(II)V"⟩
abbrev b_M_along : ByteArray := prog_7_method_18_code
def y_M_along : MethodName := ⟨"CycleGroupsModel", "along", "(IZ)V"⟩
abbrev b_M_keep : ByteArray := prog_7_method_19_code
def y_M_keep : MethodName := ⟨"CycleGroupsModel", "keep", "()V"⟩
abbrev b_M_free : ByteArray := prog_7_method_20_code
def y_M_free : MethodName := ⟨"CycleGroupsModel", "free", "()I"⟩
abbrev b_M_edgeBetween : ByteArray := prog_7_method_21_code
def y_M_edgeBetween : MethodName := ⟨"CycleGroupsModel", "edgeBetween", "(III)I"⟩
abbrev b_M_nextPart : ByteArray := prog_7_method_22_code
def y_M_nextPart : MethodName := ⟨"CycleGroupsModel", "nextPart", "(I)V"⟩
abbrev b_M_know : ByteArray := prog_7_method_23_code
def y_M_know : MethodName := ⟨"CycleGroupsModel", "know", "()V"⟩
abbrev b_M_spreadSize : ByteArray := prog_7_method_24_code
def y_M_spreadSize : MethodName := ⟨"CycleGroupsModel", "spreadSize", "(I)I"⟩
abbrev b_M_spread : ByteArray := prog_7_method_25_code
def y_M_spread : MethodName := ⟨"CycleGroupsModel", "spread", "(I)I"⟩
abbrev b_M_run : ByteArray := prog_7_method_26_code
def y_M_run : MethodName := ⟨"CycleGroupsModel", "run", "()I"⟩
abbrev b_M_base : ByteArray := prog_7_method_27_code
def y_M_base : MethodName := ⟨"CycleGroupsModel", "base", "(I)I"⟩
abbrev b_M_digitOf : ByteArray := prog_7_method_28_code
def y_M_digitOf : MethodName := ⟨"CycleGroupsModel", "digitOf", "(II)I"⟩
abbrev b_M_order : ByteArray := prog_7_method_29_code
def y_M_order : MethodName := ⟨"CycleGroupsModel", "order", "(I)I"⟩
abbrev b_M_share : ByteArray := prog_7_method_30_code
def y_M_share : MethodName := ⟨"CycleGroupsModel", "share", "()V"⟩
abbrev b_M_joinSets : ByteArray := prog_7_method_31_code
def y_M_joinSets : MethodName := ⟨"CycleGroupsModel", "joinSets", "(II)Z"⟩
abbrev b_M_orbits : ByteArray := prog_7_method_32_code
def y_M_orbits : MethodName := ⟨"CycleGroupsModel", "orbits", "()V"⟩
abbrev b_M_sizeOf : ByteArray := prog_7_method_33_code
def y_M_sizeOf : MethodName := ⟨"CycleGroupsModel", "sizeOf", "(I)I"⟩
abbrev b_M_orbit : ByteArray := prog_7_method_34_code
def y_M_orbit : MethodName := ⟨"CycleGroupsModel", "orbit", "(I)I"⟩
abbrev b_M_stabiliser : ByteArray := prog_7_method_35_code
def y_M_stabiliser : MethodName := ⟨"CycleGroupsModel", "stabiliser", "(II)I"⟩
abbrev b_M_block : ByteArray := prog_7_method_36_code
def y_M_block : MethodName := ⟨"CycleGroupsModel", "block", "(II)I"⟩
abbrev b_M_level : ByteArray := prog_7_method_37_code
def y_M_level : MethodName := ⟨"CycleGroupsModel", "level", "(I)I"⟩
abbrev b_M_member : ByteArray := prog_7_method_38_code
def y_M_member : MethodName := ⟨"CycleGroupsModel", "member", "(I)I"⟩
abbrev b_M_roundOf : ByteArray := prog_7_method_39_code
def y_M_roundOf : MethodName := ⟨"CycleGroupsModel", "roundOf", "(II)I"⟩
abbrev b_M_parity : ByteArray := prog_7_method_40_code
def y_M_parity : MethodName := ⟨"CycleGroupsModel", "parity", "(I)I"⟩
abbrev b_M_times : ByteArray := prog_7_method_41_code
def y_M_times : MethodName := ⟨"CycleGroupsModel", "times", "(I)J"⟩
abbrev b_H_init : ByteArray := prog_2_method_1_code
def y_H_init : MethodName := ⟨"CycleGroups$Chain", "<init>", "(I)V"⟩
abbrev b_H_build : ByteArray := prog_2_method_2_code
def y_H_build : MethodName := ⟨"CycleGroups$Chain", "build", "([[II)V"⟩
abbrev b_H_spreadSize : ByteArray := prog_2_method_3_code
def y_H_spreadSize : MethodName := ⟨"CycleGroups$Chain", "spreadSize", "(I)I"⟩
abbrev b_H_failingPlace : ByteArray := prog_2_method_4_code
def y_H_failingPlace : MethodName := ⟨"CycleGroups$Chain", "failingPlace", "([I)I"⟩
abbrev b_H_siftWork : ByteArray := prog_2_method_5_code
def y_H_siftWork : MethodName := ⟨"CycleGroups$Chain", "siftWork", "(I)I"⟩
abbrev b_H_complete : ByteArray := prog_2_method_6_code
def y_H_complete : MethodName := ⟨"CycleGroups$Chain", "complete", "()V"⟩
abbrev b_H_advance : ByteArray := prog_2_method_7_code
def y_H_advance : MethodName := ⟨"CycleGroups$Chain", "advance", "(I)I"⟩
abbrev b_D_init : ByteArray := prog_3_method_1_code
def y_D_init : MethodName := ⟨"CycleGroups$Decimal", "<init>", "()V"⟩
abbrev b_D_setOne : ByteArray := prog_3_method_2_code
def y_D_setOne : MethodName := ⟨"CycleGroups$Decimal", "setOne", "()V"⟩
abbrev b_D_multiply : ByteArray := prog_3_method_3_code
def y_D_multiply : MethodName := ⟨"CycleGroups$Decimal", "multiply", "(I)V"⟩
abbrev b_D_divide : ByteArray := prog_3_method_4_code
def y_D_divide : MethodName := ⟨"CycleGroups$Decimal", "divide", "(I)V"⟩
abbrev b_D_digit : ByteArray := prog_3_method_5_code
def y_D_digit : MethodName := ⟨"CycleGroups$Decimal", "digit", "(I)I"⟩
abbrev b_D_length : ByteArray := prog_3_method_6_code
def y_D_length : MethodName := ⟨"CycleGroups$Decimal", "length", "()I"⟩
abbrev b_K_init : ByteArray := prog_4_method_1_code
def y_K_init : MethodName := ⟨"CycleGroups$Link", "<init>", "(II)V"⟩
abbrev b_K_clear : ByteArray := prog_4_method_2_code
def y_K_clear : MethodName := ⟨"CycleGroups$Link", "clear", "()V"⟩
abbrev b_K_spreadSize : ByteArray := prog_4_method_3_code
def y_K_spreadSize : MethodName := ⟨"CycleGroups$Link", "spreadSize", "()I"⟩
abbrev b_K_undo : ByteArray := prog_4_method_4_code
def y_K_undo : MethodName := ⟨"CycleGroups$Link", "undo", "([I)Z"⟩
abbrev b_K_addGenerator : ByteArray := prog_4_method_5_code
def y_K_addGenerator : MethodName := ⟨"CycleGroups$Link", "addGenerator", "([I)V"⟩
abbrev b_K_openGenerator : ByteArray := prog_4_method_6_code
def y_K_openGenerator : MethodName := ⟨"CycleGroups$Link", "openGenerator", "()I"⟩
abbrev b_K_reachesNewPlace : ByteArray := prog_4_method_7_code
def y_K_reachesNewPlace : MethodName := ⟨"CycleGroups$Link", "reachesNewPlace", "(I[I)Z"⟩
abbrev b_K_widen : ByteArray := prog_4_method_8_code
def y_K_widen : MethodName := ⟨"CycleGroups$Link", "widen", "(I[I[I)V"⟩
abbrev b_P_init : ByteArray := prog_5_method_1_code
def y_P_init : MethodName := ⟨"CycleGroups$Partition", "<init>", "(I)V"⟩
abbrev b_P_separate : ByteArray := prog_5_method_2_code
def y_P_separate : MethodName := ⟨"CycleGroups$Partition", "separate", "()V"⟩
abbrev b_P_join : ByteArray := prog_5_method_3_code
def y_P_join : MethodName := ⟨"CycleGroups$Partition", "join", "(II)Z"⟩
abbrev b_P_joinOrbits : ByteArray := prog_5_method_4_code
def y_P_joinOrbits : MethodName := ⟨"CycleGroups$Partition", "joinOrbits", "([[II)V"⟩
abbrev b_P_joinImages : ByteArray := prog_5_method_5_code
def y_P_joinImages : MethodName := ⟨"CycleGroups$Partition", "joinImages", "([[II)V"⟩
abbrev b_P_joinImagesOnce : ByteArray := prog_5_method_6_code
def y_P_joinImagesOnce : MethodName := ⟨"CycleGroups$Partition", "joinImagesOnce", "([I)Z"⟩
abbrev b_P_leastWith : ByteArray := prog_5_method_7_code
def y_P_leastWith : MethodName := ⟨"CycleGroups$Partition", "leastWith", "(I)I"⟩
abbrev b_P_sizeWith : ByteArray := prog_5_method_8_code
def y_P_sizeWith : MethodName := ⟨"CycleGroups$Partition", "sizeWith", "(I)I"⟩
abbrev b_L_cell : ByteArray := method_2_code
def y_L_cell : MethodName := ⟨"CycleGroupsLaw", "cell", "([II)I"⟩
abbrev b_L_law : ByteArray := code
def y_L_law : MethodName := ⟨"CycleGroupsLaw", "law", "([I)Z"⟩
abbrev b_A_fill : ByteArray := prog_10_method_103_code
def y_A_fill : MethodName := ⟨"java/util/Arrays", "fill", "([II)V"⟩
theorem ws_C_isMove : Cond.selects y_C_isMove.cls y_C_isMove y_C_isMove ∈ tg := tg_of (List.mem_append_left _ (List.mem_of_getElem? (i := 0) (by rfl))) rfl
theorem ws_C_isPlace : Cond.selects y_C_isPlace.cls y_C_isPlace y_C_isPlace ∈ tg := tg_of (List.mem_append_left _ (List.mem_of_getElem? (i := 1) (by rfl))) rfl
theorem ws_C_freshChain : Cond.selects y_C_freshChain.cls y_C_freshChain y_C_freshChain ∈ tg := tg_of (List.mem_append_left _ (List.mem_of_getElem? (i := 2) (by rfl))) rfl
theorem ws_H_siftWork : Cond.selects y_H_siftWork.cls y_H_siftWork y_H_siftWork ∈ tg := tg_of (List.mem_append_left _ (List.mem_of_getElem? (i := 3) (by rfl))) rfl
theorem ws_H_complete : Cond.selects y_H_complete.cls y_H_complete y_H_complete ∈ tg := tg_of (List.mem_append_left _ (List.mem_of_getElem? (i := 4) (by rfl))) rfl
theorem ws_H_advance : Cond.selects y_H_advance.cls y_H_advance y_H_advance ∈ tg := tg_of (List.mem_append_left _ (List.mem_of_getElem? (i := 5) (by rfl))) rfl
theorem ws_K_widen : Cond.selects y_K_widen.cls y_K_widen y_K_widen ∈ tg := tg_of (List.mem_append_left _ (List.mem_of_getElem? (i := 6) (by rfl))) rfl
theorem ws_C_countGroup : Cond.selects y_C_countGroup.cls y_C_countGroup y_C_countGroup ∈ tg := tg_of (List.mem_append_left _ (List.mem_of_getElem? (i := 7) (by rfl))) rfl
theorem ws_D_length : Cond.selects y_D_length.cls y_D_length y_D_length ∈ tg := tg_of (List.mem_append_left _ (List.mem_of_getElem? (i := 8) (by rfl))) rfl
theorem ws_P_joinImagesOnce : Cond.selects y_P_joinImagesOnce.cls y_P_joinImagesOnce y_P_joinImagesOnce ∈ tg := tg_of (List.mem_append_left _ (List.mem_of_getElem? (i := 9) (by rfl))) rfl
theorem ws_C_isState : Cond.selects y_C_isState.cls y_C_isState y_C_isState ∈ tg := tg_of (List.mem_append_left _ (List.mem_of_getElem? (i := 10) (by rfl))) rfl
theorem ws_M_isPlace : Cond.selects y_M_isPlace.cls y_M_isPlace y_M_isPlace ∈ tg := tg_of (List.mem_append_left _ (List.mem_of_getElem? (i := 11) (by rfl))) rfl
theorem ws_M_isState : Cond.selects y_M_isState.cls y_M_isState y_M_isState ∈ tg := tg_of (List.mem_append_left _ (List.mem_of_getElem? (i := 12) (by rfl))) rfl
theorem ws_M_applyMove : Cond.selects y_M_applyMove.cls y_M_applyMove y_M_applyMove ∈ tg := tg_of (List.mem_append_left _ (List.mem_of_getElem? (i := 13) (by rfl))) rfl
theorem ws_M_know : Cond.selects y_M_know.cls y_M_know y_M_know ∈ tg := tg_of (List.mem_append_left _ (List.mem_of_getElem? (i := 14) (by rfl))) rfl
theorem ws_M_spreadOf : Cond.selects y_M_spreadOf.cls y_M_spreadOf y_M_spreadOf ∈ tg := tg_of (List.mem_append_left _ (List.mem_of_getElem? (i := 15) (by rfl))) rfl
theorem ws_M_nextPart : Cond.selects y_M_nextPart.cls y_M_nextPart y_M_nextPart ∈ tg := tg_of (List.mem_append_left _ (List.mem_of_getElem? (i := 16) (by rfl))) rfl
theorem ws_M_undo : Cond.selects y_M_undo.cls y_M_undo y_M_undo ∈ tg := tg_of (List.mem_append_left _ (List.mem_of_getElem? (i := 17) (by rfl))) rfl
theorem ws_M_keep : Cond.selects y_M_keep.cls y_M_keep y_M_keep ∈ tg := tg_of (List.mem_append_left _ (List.mem_of_getElem? (i := 18) (by rfl))) rfl
theorem ws_M_leastMoved : Cond.selects y_M_leastMoved.cls y_M_leastMoved y_M_leastMoved ∈ tg := tg_of (List.mem_append_left _ (List.mem_of_getElem? (i := 19) (by rfl))) rfl
theorem ws_M_walk : Cond.selects y_M_walk.cls y_M_walk y_M_walk ∈ tg := tg_of (List.mem_append_left _ (List.mem_of_getElem? (i := 20) (by rfl))) rfl
theorem ws_M_put : Cond.selects y_M_put.cls y_M_put y_M_put ∈ tg := tg_of (List.mem_append_left _ (List.mem_of_getElem? (i := 21) (by rfl))) rfl
theorem ws_M_free : Cond.selects y_M_free.cls y_M_free y_M_free ∈ tg := tg_of (List.mem_append_left _ (List.mem_of_getElem? (i := 22) (by rfl))) rfl
theorem ws_M_edgeBetween : Cond.selects y_M_edgeBetween.cls y_M_edgeBetween y_M_edgeBetween ∈ tg := tg_of (List.mem_append_left _ (List.mem_of_getElem? (i := 23) (by rfl))) rfl
theorem ws_M_along : Cond.selects y_M_along.cls y_M_along y_M_along ∈ tg := tg_of (List.mem_append_left _ (List.mem_of_getElem? (i := 24) (by rfl))) rfl
theorem ws_M_spreadSize : Cond.selects y_M_spreadSize.cls y_M_spreadSize y_M_spreadSize ∈ tg := tg_of (List.mem_append_left _ (List.mem_of_getElem? (i := 25) (by rfl))) rfl
theorem ws_M_digitOf : Cond.selects y_M_digitOf.cls y_M_digitOf y_M_digitOf ∈ tg := tg_of (List.mem_append_left _ (List.mem_of_getElem? (i := 26) (by rfl))) rfl
theorem ws_M_orbits : Cond.selects y_M_orbits.cls y_M_orbits y_M_orbits ∈ tg := tg_of (List.mem_append_left _ (List.mem_of_getElem? (i := 27) (by rfl))) rfl
theorem ws_M_share : Cond.selects y_M_share.cls y_M_share y_M_share ∈ tg := tg_of (List.mem_append_left _ (List.mem_of_getElem? (i := 28) (by rfl))) rfl
theorem ws_M_joinSets : Cond.selects y_M_joinSets.cls y_M_joinSets y_M_joinSets ∈ tg := tg_of (List.mem_append_left _ (List.mem_of_getElem? (i := 29) (by rfl))) rfl
theorem ws_M_sizeOf : Cond.selects y_M_sizeOf.cls y_M_sizeOf y_M_sizeOf ∈ tg := tg_of (List.mem_append_left _ (List.mem_of_getElem? (i := 30) (by rfl))) rfl
theorem ws_M_roundOf : Cond.selects y_M_roundOf.cls y_M_roundOf y_M_roundOf ∈ tg := tg_of (List.mem_append_left _ (List.mem_of_getElem? (i := 31) (by rfl))) rfl
theorem wi_C_init : Cond.instanceMethod y_C_init ∈ tg := w_13
theorem wc_C_init : Cond.code y_C_init b_C_init 2 none ∈ tg := w_14
theorem wi_P_init : Cond.instanceMethod y_P_init ∈ tg := w_29
theorem wc_P_init : Cond.code y_P_init b_P_init 2 none ∈ tg := w_30
theorem wi_D_init : Cond.instanceMethod y_D_init ∈ tg := w_40
theorem wc_D_init : Cond.code y_D_init b_D_init 1 none ∈ tg := w_41
theorem wi_C_move : Cond.instanceMethod y_C_move ∈ tg := w_76
theorem ws_C_move : Cond.selects y_C_move.cls y_C_move y_C_move ∈ tg := w_77
theorem wc_C_move : Cond.code y_C_move b_C_move 1 (some .int) ∈ tg := w_78
theorem wi_C_leaveAll : Cond.static y_C_leaveAll ∈ tg := w_80
theorem wc_C_leaveAll : Cond.code y_C_leaveAll b_C_leaveAll 2 none ∈ tg := w_81
theorem wi_C_cycle : Cond.instanceMethod y_C_cycle ∈ tg := w_83
theorem ws_C_cycle : Cond.selects y_C_cycle.cls y_C_cycle y_C_cycle ∈ tg := w_84
theorem wc_C_cycle : Cond.code y_C_cycle b_C_cycle 5 (some .boolean) ∈ tg := w_85
theorem wi_C_isMove : Cond.instanceMethod y_C_isMove ∈ tg := w_88
theorem wc_C_isMove : Cond.code y_C_isMove b_C_isMove 2 (some .boolean) ∈ tg := w_89
theorem wi_C_isPlace : Cond.instanceMethod y_C_isPlace ∈ tg := w_92
theorem wc_C_isPlace : Cond.code y_C_isPlace b_C_isPlace 2 (some .boolean) ∈ tg := w_93
theorem wi_C_run : Cond.instanceMethod y_C_run ∈ tg := w_95
theorem ws_C_run : Cond.selects y_C_run.cls y_C_run y_C_run ∈ tg := w_96
theorem wc_C_run : Cond.code y_C_run b_C_run 4 (some .int) ∈ tg := w_97
theorem wi_C_freshChain : Cond.instanceMethod y_C_freshChain ∈ tg := w_100
theorem wc_C_freshChain : Cond.code y_C_freshChain b_C_freshChain 1 (some (.object "CycleGroups$Chain")) ∈ tg := w_101
theorem wi_H_init : Cond.instanceMethod y_H_init ∈ tg := w_105
theorem wc_H_init : Cond.code y_H_init b_H_init 3 none ∈ tg := w_106
theorem wi_K_init : Cond.instanceMethod y_K_init ∈ tg := w_112
theorem wc_K_init : Cond.code y_K_init b_K_init 5 none ∈ tg := w_113
theorem wi_A_fill : Cond.static y_A_fill ∈ tg := w_117
theorem wc_A_fill : Cond.code y_A_fill b_A_fill 4 none ∈ tg := w_118
theorem wi_H_build : Cond.instanceMethod y_H_build ∈ tg := w_153
theorem ws_H_build : Cond.selects y_H_build.cls y_H_build y_H_build ∈ tg := w_154
theorem wc_H_build : Cond.code y_H_build b_H_build 4 none ∈ tg := w_155
theorem wi_K_clear : Cond.instanceMethod y_K_clear ∈ tg := w_157
theorem ws_K_clear : Cond.selects y_K_clear.cls y_K_clear y_K_clear ∈ tg := w_158
theorem wc_K_clear : Cond.code y_K_clear b_K_clear 2 none ∈ tg := w_159
theorem wi_H_failingPlace : Cond.instanceMethod y_H_failingPlace ∈ tg := w_161
theorem ws_H_failingPlace : Cond.selects y_H_failingPlace.cls y_H_failingPlace y_H_failingPlace ∈ tg := w_162
theorem wc_H_failingPlace : Cond.code y_H_failingPlace b_H_failingPlace 2 (some .int) ∈ tg := w_163
theorem wi_H_siftWork : Cond.instanceMethod y_H_siftWork ∈ tg := w_169
theorem wc_H_siftWork : Cond.code y_H_siftWork b_H_siftWork 3 (some .int) ∈ tg := w_170
theorem wi_K_undo : Cond.instanceMethod y_K_undo ∈ tg := w_172
theorem ws_K_undo : Cond.selects y_K_undo.cls y_K_undo y_K_undo ∈ tg := w_173
theorem wc_K_undo : Cond.code y_K_undo b_K_undo 6 (some .boolean) ∈ tg := w_174
theorem wi_K_addGenerator : Cond.instanceMethod y_K_addGenerator ∈ tg := w_176
theorem ws_K_addGenerator : Cond.selects y_K_addGenerator.cls y_K_addGenerator y_K_addGenerator ∈ tg := w_177
theorem wc_K_addGenerator : Cond.code y_K_addGenerator b_K_addGenerator 2 none ∈ tg := w_178
theorem wi_H_complete : Cond.instanceMethod y_H_complete ∈ tg := w_182
theorem wc_H_complete : Cond.code y_H_complete b_H_complete 3 none ∈ tg := w_183
theorem wi_H_advance : Cond.instanceMethod y_H_advance ∈ tg := w_187
theorem wc_H_advance : Cond.code y_H_advance b_H_advance 5 (some .int) ∈ tg := w_188
theorem wi_K_openGenerator : Cond.instanceMethod y_K_openGenerator ∈ tg := w_190
theorem ws_K_openGenerator : Cond.selects y_K_openGenerator.cls y_K_openGenerator y_K_openGenerator ∈ tg := w_191
theorem wc_K_openGenerator : Cond.code y_K_openGenerator b_K_openGenerator 2 (some .int) ∈ tg := w_192
theorem wi_K_reachesNewPlace : Cond.instanceMethod y_K_reachesNewPlace ∈ tg := w_194
theorem ws_K_reachesNewPlace : Cond.selects y_K_reachesNewPlace.cls y_K_reachesNewPlace y_K_reachesNewPlace ∈ tg := w_195
theorem wc_K_reachesNewPlace : Cond.code y_K_reachesNewPlace b_K_reachesNewPlace 9 (some .boolean) ∈ tg := w_196
theorem wi_K_widen : Cond.instanceMethod y_K_widen ∈ tg := w_199
theorem wc_K_widen : Cond.code y_K_widen b_K_widen 6 none ∈ tg := w_200
theorem wi_H_spreadSize : Cond.instanceMethod y_H_spreadSize ∈ tg := w_202
theorem ws_H_spreadSize : Cond.selects y_H_spreadSize.cls y_H_spreadSize y_H_spreadSize ∈ tg := w_203
theorem wc_H_spreadSize : Cond.code y_H_spreadSize b_H_spreadSize 2 (some .int) ∈ tg := w_204
theorem wi_K_spreadSize : Cond.instanceMethod y_K_spreadSize ∈ tg := w_206
theorem ws_K_spreadSize : Cond.selects y_K_spreadSize.cls y_K_spreadSize y_K_spreadSize ∈ tg := w_207
theorem wc_K_spreadSize : Cond.code y_K_spreadSize b_K_spreadSize 1 (some .int) ∈ tg := w_208
theorem wi_C_base : Cond.instanceMethod y_C_base ∈ tg := w_210
theorem ws_C_base : Cond.selects y_C_base.cls y_C_base y_C_base ∈ tg := w_211
theorem wc_C_base : Cond.code y_C_base b_C_base 5 (some .int) ∈ tg := w_212
theorem wi_C_spread : Cond.instanceMethod y_C_spread ∈ tg := w_214
theorem ws_C_spread : Cond.selects y_C_spread.cls y_C_spread y_C_spread ∈ tg := w_215
theorem wc_C_spread : Cond.code y_C_spread b_C_spread 2 (some .int) ∈ tg := w_216
theorem wi_C_order : Cond.instanceMethod y_C_order ∈ tg := w_218
theorem ws_C_order : Cond.selects y_C_order.cls y_C_order y_C_order ∈ tg := w_219
theorem wc_C_order : Cond.code y_C_order b_C_order 2 (some .int) ∈ tg := w_220
theorem wi_C_countGroup : Cond.instanceMethod y_C_countGroup ∈ tg := w_223
theorem wc_C_countGroup : Cond.code y_C_countGroup b_C_countGroup 3 none ∈ tg := w_224
theorem wi_D_setOne : Cond.instanceMethod y_D_setOne ∈ tg := w_226
theorem ws_D_setOne : Cond.selects y_D_setOne.cls y_D_setOne y_D_setOne ∈ tg := w_227
theorem wc_D_setOne : Cond.code y_D_setOne b_D_setOne 1 none ∈ tg := w_228
theorem wi_D_multiply : Cond.instanceMethod y_D_multiply ∈ tg := w_231
theorem ws_D_multiply : Cond.selects y_D_multiply.cls y_D_multiply y_D_multiply ∈ tg := w_232
theorem wc_D_multiply : Cond.code y_D_multiply b_D_multiply 5 none ∈ tg := w_233
theorem wi_D_digit : Cond.instanceMethod y_D_digit ∈ tg := w_235
theorem ws_D_digit : Cond.selects y_D_digit.cls y_D_digit y_D_digit ∈ tg := w_236
theorem wc_D_digit : Cond.code y_D_digit b_D_digit 2 (some .int) ∈ tg := w_237
theorem wi_D_length : Cond.instanceMethod y_D_length ∈ tg := w_240
theorem wc_D_length : Cond.code y_D_length b_D_length 2 (some .int) ∈ tg := w_241
theorem wi_C_stabiliser : Cond.instanceMethod y_C_stabiliser ∈ tg := w_243
theorem ws_C_stabiliser : Cond.selects y_C_stabiliser.cls y_C_stabiliser y_C_stabiliser ∈ tg := w_244
theorem wc_C_stabiliser : Cond.code y_C_stabiliser b_C_stabiliser 3 (some .int) ∈ tg := w_245
theorem wi_P_separate : Cond.instanceMethod y_P_separate ∈ tg := w_247
theorem ws_P_separate : Cond.selects y_P_separate.cls y_P_separate y_P_separate ∈ tg := w_248
theorem wc_P_separate : Cond.code y_P_separate b_P_separate 1 none ∈ tg := w_249
theorem wi_P_joinOrbits : Cond.instanceMethod y_P_joinOrbits ∈ tg := w_252
theorem ws_P_joinOrbits : Cond.selects y_P_joinOrbits.cls y_P_joinOrbits y_P_joinOrbits ∈ tg := w_253
theorem wc_P_joinOrbits : Cond.code y_P_joinOrbits b_P_joinOrbits 5 none ∈ tg := w_254
theorem wi_P_join : Cond.instanceMethod y_P_join ∈ tg := w_256
theorem ws_P_join : Cond.selects y_P_join.cls y_P_join y_P_join ∈ tg := w_257
theorem wc_P_join : Cond.code y_P_join b_P_join 6 (some .boolean) ∈ tg := w_258
theorem wi_P_sizeWith : Cond.instanceMethod y_P_sizeWith ∈ tg := w_262
theorem ws_P_sizeWith : Cond.selects y_P_sizeWith.cls y_P_sizeWith y_P_sizeWith ∈ tg := w_263
theorem wc_P_sizeWith : Cond.code y_P_sizeWith b_P_sizeWith 4 (some .int) ∈ tg := w_264
theorem wi_D_divide : Cond.instanceMethod y_D_divide ∈ tg := w_266
theorem ws_D_divide : Cond.selects y_D_divide.cls y_D_divide y_D_divide ∈ tg := w_267
theorem wc_D_divide : Cond.code y_D_divide b_D_divide 5 none ∈ tg := w_268
theorem wi_C_orbit : Cond.instanceMethod y_C_orbit ∈ tg := w_270
theorem ws_C_orbit : Cond.selects y_C_orbit.cls y_C_orbit y_C_orbit ∈ tg := w_271
theorem wc_C_orbit : Cond.code y_C_orbit b_C_orbit 2 (some .int) ∈ tg := w_272
theorem wi_P_leastWith : Cond.instanceMethod y_P_leastWith ∈ tg := w_274
theorem ws_P_leastWith : Cond.selects y_P_leastWith.cls y_P_leastWith y_P_leastWith ∈ tg := w_275
theorem wc_P_leastWith : Cond.code y_P_leastWith b_P_leastWith 2 (some .int) ∈ tg := w_276
theorem wi_C_block : Cond.instanceMethod y_C_block ∈ tg := w_278
theorem ws_C_block : Cond.selects y_C_block.cls y_C_block y_C_block ∈ tg := w_279
theorem wc_C_block : Cond.code y_C_block b_C_block 3 (some .int) ∈ tg := w_280
theorem wi_P_joinImages : Cond.instanceMethod y_P_joinImages ∈ tg := w_283
theorem ws_P_joinImages : Cond.selects y_P_joinImages.cls y_P_joinImages y_P_joinImages ∈ tg := w_284
theorem wc_P_joinImages : Cond.code y_P_joinImages b_P_joinImages 6 none ∈ tg := w_285
theorem wi_P_joinImagesOnce : Cond.instanceMethod y_P_joinImagesOnce ∈ tg := w_288
theorem wc_P_joinImagesOnce : Cond.code y_P_joinImagesOnce b_P_joinImagesOnce 4 (some .boolean) ∈ tg := w_289
theorem wi_C_state : Cond.instanceMethod y_C_state ∈ tg := w_291
theorem ws_C_state : Cond.selects y_C_state.cls y_C_state y_C_state ∈ tg := w_292
theorem wc_C_state : Cond.code y_C_state b_C_state 1 (some .int) ∈ tg := w_293
theorem wi_C_apply : Cond.instanceMethod y_C_apply ∈ tg := w_295
theorem ws_C_apply : Cond.selects y_C_apply.cls y_C_apply y_C_apply ∈ tg := w_296
theorem wc_C_apply : Cond.code y_C_apply b_C_apply 3 (some .boolean) ∈ tg := w_297
theorem wi_C_isState : Cond.instanceMethod y_C_isState ∈ tg := w_300
theorem wc_C_isState : Cond.code y_C_isState b_C_isState 2 (some .boolean) ∈ tg := w_301
theorem wi_C_follow : Cond.static y_C_follow ∈ tg := w_303
theorem wc_C_follow : Cond.code y_C_follow b_C_follow 3 none ∈ tg := w_304
theorem wi_C_exchange : Cond.instanceMethod y_C_exchange ∈ tg := w_306
theorem ws_C_exchange : Cond.selects y_C_exchange.cls y_C_exchange y_C_exchange ∈ tg := w_307
theorem wc_C_exchange : Cond.code y_C_exchange b_C_exchange 6 (some .boolean) ∈ tg := w_308
theorem wi_C_scramble : Cond.instanceMethod y_C_scramble ∈ tg := w_310
theorem ws_C_scramble : Cond.selects y_C_scramble.cls y_C_scramble y_C_scramble ∈ tg := w_311
theorem wc_C_scramble : Cond.code y_C_scramble b_C_scramble 9 (some .boolean) ∈ tg := w_312
theorem wi_C_image : Cond.instanceMethod y_C_image ∈ tg := w_316
theorem ws_C_image : Cond.selects y_C_image.cls y_C_image y_C_image ∈ tg := w_317
theorem wc_C_image : Cond.code y_C_image b_C_image 3 (some .int) ∈ tg := w_318
theorem wi_C_member : Cond.instanceMethod y_C_member ∈ tg := w_320
theorem ws_C_member : Cond.selects y_C_member.cls y_C_member y_C_member ∈ tg := w_321
theorem wc_C_member : Cond.code y_C_member b_C_member 2 (some .int) ∈ tg := w_322
theorem wi_C_level : Cond.instanceMethod y_C_level ∈ tg := w_325
theorem ws_C_level : Cond.selects y_C_level.cls y_C_level y_C_level ∈ tg := w_326
theorem wc_C_level : Cond.code y_C_level b_C_level 2 (some .int) ∈ tg := w_327
theorem wi_C_parity : Cond.instanceMethod y_C_parity ∈ tg := w_329
theorem ws_C_parity : Cond.selects y_C_parity.cls y_C_parity y_C_parity ∈ tg := w_330
theorem wc_C_parity : Cond.code y_C_parity b_C_parity 6 (some .int) ∈ tg := w_331
theorem wi_C_times : Cond.instanceMethod y_C_times ∈ tg := w_333
theorem ws_C_times : Cond.selects y_C_times.cls y_C_times y_C_times ∈ tg := w_334
theorem wc_C_times : Cond.code y_C_times b_C_times 5 (some .long) ∈ tg := w_335
theorem wi_C_returnTime : Cond.static y_C_returnTime ∈ tg := w_337
theorem wc_C_returnTime : Cond.code y_C_returnTime b_C_returnTime 4 (some .int) ∈ tg := w_338
theorem wi_C_leastMultiple : Cond.static y_C_leastMultiple ∈ tg := w_340
theorem wc_C_leastMultiple : Cond.code y_C_leastMultiple b_C_leastMultiple 4 (some .long) ∈ tg := w_341
theorem wi_L_cell : Cond.static y_L_cell ∈ tg := w_343
theorem wc_L_cell : Cond.code y_L_cell b_L_cell 2 (some .int) ∈ tg := w_344
theorem wi_M_init : Cond.instanceMethod y_M_init ∈ tg := w_348
theorem wc_M_init : Cond.code y_M_init b_M_init 2 none ∈ tg := w_349
theorem wi_M_move : Cond.instanceMethod y_M_move ∈ tg := w_426
theorem ws_M_move : Cond.selects y_M_move.cls y_M_move y_M_move ∈ tg := w_427
theorem wc_M_move : Cond.code y_M_move b_M_move 2 (some .int) ∈ tg := w_428
theorem wi_M_cycle : Cond.instanceMethod y_M_cycle ∈ tg := w_430
theorem ws_M_cycle : Cond.selects y_M_cycle.cls y_M_cycle y_M_cycle ∈ tg := w_431
theorem wc_M_cycle : Cond.code y_M_cycle b_M_cycle 4 (some .boolean) ∈ tg := w_432
theorem wi_M_isPlace : Cond.instanceMethod y_M_isPlace ∈ tg := w_435
theorem wc_M_isPlace : Cond.code y_M_isPlace b_M_isPlace 2 (some .boolean) ∈ tg := w_436
theorem wi_M_state : Cond.instanceMethod y_M_state ∈ tg := w_438
theorem ws_M_state : Cond.selects y_M_state.cls y_M_state y_M_state ∈ tg := w_439
theorem wc_M_state : Cond.code y_M_state b_M_state 2 (some .int) ∈ tg := w_440
theorem wi_M_apply : Cond.instanceMethod y_M_apply ∈ tg := w_442
theorem ws_M_apply : Cond.selects y_M_apply.cls y_M_apply y_M_apply ∈ tg := w_443
theorem wc_M_apply : Cond.code y_M_apply b_M_apply 3 (some .boolean) ∈ tg := w_444
theorem wi_M_isState : Cond.instanceMethod y_M_isState ∈ tg := w_447
theorem wc_M_isState : Cond.code y_M_isState b_M_isState 2 (some .boolean) ∈ tg := w_448
theorem wi_M_applyMove : Cond.instanceMethod y_M_applyMove ∈ tg := w_451
theorem wc_M_applyMove : Cond.code y_M_applyMove b_M_applyMove 4 none ∈ tg := w_452
theorem wi_M_exchange : Cond.instanceMethod y_M_exchange ∈ tg := w_454
theorem ws_M_exchange : Cond.selects y_M_exchange.cls y_M_exchange y_M_exchange ∈ tg := w_455
theorem wc_M_exchange : Cond.code y_M_exchange b_M_exchange 6 (some .boolean) ∈ tg := w_456
theorem wi_M_scramble : Cond.instanceMethod y_M_scramble ∈ tg := w_458
theorem ws_M_scramble : Cond.selects y_M_scramble.cls y_M_scramble y_M_scramble ∈ tg := w_459
theorem wc_M_scramble : Cond.code y_M_scramble b_M_scramble 8 (some .boolean) ∈ tg := w_460
theorem wi_M_image : Cond.instanceMethod y_M_image ∈ tg := w_464
theorem ws_M_image : Cond.selects y_M_image.cls y_M_image y_M_image ∈ tg := w_465
theorem wc_M_image : Cond.code y_M_image b_M_image 3 (some .int) ∈ tg := w_466
theorem wi_M_spread : Cond.instanceMethod y_M_spread ∈ tg := w_468
theorem ws_M_spread : Cond.selects y_M_spread.cls y_M_spread y_M_spread ∈ tg := w_469
theorem wc_M_spread : Cond.code y_M_spread b_M_spread 2 (some .int) ∈ tg := w_470
theorem wi_M_know : Cond.instanceMethod y_M_know ∈ tg := w_473
theorem wc_M_know : Cond.code y_M_know b_M_know 2 none ∈ tg := w_474
theorem wi_M_spreadOf : Cond.instanceMethod y_M_spreadOf ∈ tg := w_477
theorem wc_M_spreadOf : Cond.code y_M_spreadOf b_M_spreadOf 8 none ∈ tg := w_478
theorem wi_M_nextPart : Cond.instanceMethod y_M_nextPart ∈ tg := w_481
theorem wc_M_nextPart : Cond.code y_M_nextPart b_M_nextPart 5 none ∈ tg := w_482
theorem wi_M_undo : Cond.instanceMethod y_M_undo ∈ tg := w_485
theorem wc_M_undo : Cond.code y_M_undo b_M_undo 4 none ∈ tg := w_486
theorem wi_M_keep : Cond.instanceMethod y_M_keep ∈ tg := w_489
theorem wc_M_keep : Cond.code y_M_keep b_M_keep 13 none ∈ tg := w_490
theorem wi_M_leastMoved : Cond.instanceMethod y_M_leastMoved ∈ tg := w_493
theorem wc_M_leastMoved : Cond.code y_M_leastMoved b_M_leastMoved 2 (some .int) ∈ tg := w_494
theorem wi_M_walk : Cond.instanceMethod y_M_walk ∈ tg := w_497
theorem wc_M_walk : Cond.code y_M_walk b_M_walk 7 (some .boolean) ∈ tg := w_498
theorem wi_M_put : Cond.instanceMethod y_M_put ∈ tg := w_501
theorem wc_M_put : Cond.code y_M_put b_M_put 5 none ∈ tg := w_502
theorem wi_M_free : Cond.instanceMethod y_M_free ∈ tg := w_505
theorem wc_M_free : Cond.code y_M_free b_M_free 2 (some .int) ∈ tg := w_506
theorem wi_M_edgeBetween : Cond.instanceMethod y_M_edgeBetween ∈ tg := w_509
theorem wc_M_edgeBetween : Cond.code y_M_edgeBetween b_M_edgeBetween 5 (some .int) ∈ tg := w_510
theorem wi_M_along : Cond.instanceMethod y_M_along ∈ tg := w_513
theorem wc_M_along : Cond.code y_M_along b_M_along 4 none ∈ tg := w_514
theorem wi_M_spreadSize : Cond.instanceMethod y_M_spreadSize ∈ tg := w_517
theorem wc_M_spreadSize : Cond.code y_M_spreadSize b_M_spreadSize 4 (some .int) ∈ tg := w_518
theorem wi_M_run : Cond.instanceMethod y_M_run ∈ tg := w_520
theorem ws_M_run : Cond.selects y_M_run.cls y_M_run y_M_run ∈ tg := w_521
theorem wc_M_run : Cond.code y_M_run b_M_run 3 (some .int) ∈ tg := w_522
theorem wi_M_base : Cond.instanceMethod y_M_base ∈ tg := w_524
theorem ws_M_base : Cond.selects y_M_base.cls y_M_base y_M_base ∈ tg := w_525
theorem wc_M_base : Cond.code y_M_base b_M_base 4 (some .int) ∈ tg := w_526
theorem wi_M_order : Cond.instanceMethod y_M_order ∈ tg := w_528
theorem ws_M_order : Cond.selects y_M_order.cls y_M_order y_M_order ∈ tg := w_529
theorem wc_M_order : Cond.code y_M_order b_M_order 2 (some .int) ∈ tg := w_530
theorem wi_M_digitOf : Cond.instanceMethod y_M_digitOf ∈ tg := w_533
theorem wc_M_digitOf : Cond.code y_M_digitOf b_M_digitOf 7 (some .int) ∈ tg := w_534
theorem wi_M_orbit : Cond.instanceMethod y_M_orbit ∈ tg := w_536
theorem ws_M_orbit : Cond.selects y_M_orbit.cls y_M_orbit y_M_orbit ∈ tg := w_537
theorem wc_M_orbit : Cond.code y_M_orbit b_M_orbit 2 (some .int) ∈ tg := w_538
theorem wi_M_orbits : Cond.instanceMethod y_M_orbits ∈ tg := w_541
theorem wc_M_orbits : Cond.code y_M_orbits b_M_orbits 3 none ∈ tg := w_542
theorem wi_M_share : Cond.instanceMethod y_M_share ∈ tg := w_545
theorem wc_M_share : Cond.code y_M_share b_M_share 2 none ∈ tg := w_546
theorem wi_M_joinSets : Cond.instanceMethod y_M_joinSets ∈ tg := w_549
theorem wc_M_joinSets : Cond.code y_M_joinSets b_M_joinSets 6 (some .boolean) ∈ tg := w_550
theorem wi_M_stabiliser : Cond.instanceMethod y_M_stabiliser ∈ tg := w_552
theorem ws_M_stabiliser : Cond.selects y_M_stabiliser.cls y_M_stabiliser y_M_stabiliser ∈ tg := w_553
theorem wc_M_stabiliser : Cond.code y_M_stabiliser b_M_stabiliser 3 (some .int) ∈ tg := w_554
theorem wi_M_sizeOf : Cond.instanceMethod y_M_sizeOf ∈ tg := w_557
theorem wc_M_sizeOf : Cond.code y_M_sizeOf b_M_sizeOf 4 (some .int) ∈ tg := w_558
theorem wi_M_block : Cond.instanceMethod y_M_block ∈ tg := w_560
theorem ws_M_block : Cond.selects y_M_block.cls y_M_block y_M_block ∈ tg := w_561
theorem wc_M_block : Cond.code y_M_block b_M_block 6 (some .int) ∈ tg := w_562
theorem wi_M_level : Cond.instanceMethod y_M_level ∈ tg := w_564
theorem ws_M_level : Cond.selects y_M_level.cls y_M_level y_M_level ∈ tg := w_565
theorem wc_M_level : Cond.code y_M_level b_M_level 3 (some .int) ∈ tg := w_566
theorem wi_M_member : Cond.instanceMethod y_M_member ∈ tg := w_568
theorem ws_M_member : Cond.selects y_M_member.cls y_M_member y_M_member ∈ tg := w_569
theorem wc_M_member : Cond.code y_M_member b_M_member 3 (some .int) ∈ tg := w_570
theorem wi_M_parity : Cond.instanceMethod y_M_parity ∈ tg := w_573
theorem ws_M_parity : Cond.selects y_M_parity.cls y_M_parity y_M_parity ∈ tg := w_574
theorem wc_M_parity : Cond.code y_M_parity b_M_parity 5 (some .int) ∈ tg := w_575
theorem wi_M_times : Cond.instanceMethod y_M_times ∈ tg := w_577
theorem ws_M_times : Cond.selects y_M_times.cls y_M_times y_M_times ∈ tg := w_578
theorem wc_M_times : Cond.code y_M_times b_M_times 6 (some .long) ∈ tg := w_579
theorem wi_M_roundOf : Cond.instanceMethod y_M_roundOf ∈ tg := w_582
theorem wc_M_roundOf : Cond.code y_M_roundOf b_M_roundOf 5 (some .int) ∈ tg := w_583
end
section
theorem d_C_init_0 : decode b_C_init 0 = .ok (.aload_n 0, 1) := by decide +kernel
theorem d_C_init_1 : decode b_C_init 1 = .ok (.invokespecial 1, 3) := by decide +kernel
theorem d_C_init_4 : decode b_C_init 4 = .ok (.aload_n 0, 1) := by decide +kernel
theorem d_C_init_5 : decode b_C_init 5 = .ok (.iconst 1, 1) := by decide +kernel
theorem d_C_init_6 : decode b_C_init 6 = .ok (.bipush 24, 2) := by decide +kernel
theorem d_C_init_8 : decode b_C_init 8 = .ok (.iload_n 1, 1) := by decide +kernel
theorem d_C_init_9 : decode b_C_init 9 = .ok (.invokestatic 9, 3) := by decide +kernel
theorem d_C_init_12 : decode b_C_init 12 = .ok (.invokestatic 15, 3) := by decide +kernel
theorem d_C_init_15 : decode b_C_init 15 = .ok (.putfield 18, 3) := by decide +kernel
theorem d_C_init_18 : decode b_C_init 18 = .ok (.aload_n 0, 1) := by decide +kernel
theorem d_C_init_19 : decode b_C_init 19 = .ok (.bipush 10, 2) := by decide +kernel
theorem d_C_init_21 : decode b_C_init 21 = .ok (.aload_n 0, 1) := by decide +kernel
theorem d_C_init_22 : decode b_C_init 22 = .ok (.getfield 18, 3) := by decide +kernel
theorem d_C_init_25 : decode b_C_init 25 = .ok (.multianewarray 22 2, 4) := by decide +kernel
theorem d_C_init_29 : decode b_C_init 29 = .ok (.putfield 24, 3) := by decide +kernel
theorem d_C_init_32 : decode b_C_init 32 = .ok (.aload_n 0, 1) := by decide +kernel
theorem d_C_init_33 : decode b_C_init 33 = .ok (.bipush 20, 2) := by decide +kernel
theorem d_C_init_35 : decode b_C_init 35 = .ok (.aload_n 0, 1) := by decide +kernel
theorem d_C_init_36 : decode b_C_init 36 = .ok (.getfield 18, 3) := by decide +kernel
theorem d_C_init_39 : decode b_C_init 39 = .ok (.multianewarray 22 2, 4) := by decide +kernel
theorem d_C_init_43 : decode b_C_init 43 = .ok (.putfield 27, 3) := by decide +kernel
theorem d_C_init_46 : decode b_C_init 46 = .ok (.aload_n 0, 1) := by decide +kernel
theorem d_C_init_47 : decode b_C_init 47 = .ok (.new 30, 3) := by decide +kernel
theorem d_C_init_50 : decode b_C_init 50 = .ok (.dup, 1) := by decide +kernel
theorem d_C_init_51 : decode b_C_init 51 = .ok (.aload_n 0, 1) := by decide +kernel
theorem d_C_init_52 : decode b_C_init 52 = .ok (.getfield 18, 3) := by decide +kernel
theorem d_C_init_55 : decode b_C_init 55 = .ok (.invokespecial 32, 3) := by decide +kernel
theorem d_C_init_58 : decode b_C_init 58 = .ok (.putfield 35, 3) := by decide +kernel
theorem d_C_init_61 : decode b_C_init 61 = .ok (.aload_n 0, 1) := by decide +kernel
theorem d_C_init_62 : decode b_C_init 62 = .ok (.new 39, 3) := by decide +kernel
theorem d_C_init_65 : decode b_C_init 65 = .ok (.dup, 1) := by decide +kernel
theorem d_C_init_66 : decode b_C_init 66 = .ok (.invokespecial 41, 3) := by decide +kernel
theorem d_C_init_69 : decode b_C_init 69 = .ok (.putfield 42, 3) := by decide +kernel
theorem d_C_init_72 : decode b_C_init 72 = .ok (.return_, 1) := by decide +kernel
theorem d_C_move_0 : decode b_C_move 0 = .ok (.aload_n 0, 1) := by decide +kernel
theorem d_C_move_1 : decode b_C_move 1 = .ok (.getfield 46, 3) := by decide +kernel
theorem d_C_move_4 : decode b_C_move 4 = .ok (.bipush 10, 2) := by decide +kernel
theorem d_C_move_6 : decode b_C_move 6 = .ok (.if_icmp .lt 5, 3) := by decide +kernel
theorem d_C_move_9 : decode b_C_move 9 = .ok (.iconst (-1), 1) := by decide +kernel
theorem d_C_move_10 : decode b_C_move 10 = .ok (.ireturn, 1) := by decide +kernel
theorem d_C_move_11 : decode b_C_move 11 = .ok (.aload_n 0, 1) := by decide +kernel
theorem d_C_move_12 : decode b_C_move 12 = .ok (.getfield 24, 3) := by decide +kernel
theorem d_C_move_15 : decode b_C_move 15 = .ok (.aload_n 0, 1) := by decide +kernel
theorem d_C_move_16 : decode b_C_move 16 = .ok (.getfield 46, 3) := by decide +kernel
theorem d_C_move_19 : decode b_C_move 19 = .ok (.aaload, 1) := by decide +kernel
theorem d_C_move_20 : decode b_C_move 20 = .ok (.invokestatic 49, 3) := by decide +kernel
theorem d_C_move_23 : decode b_C_move 23 = .ok (.aload_n 0, 1) := by decide +kernel
theorem d_C_move_24 : decode b_C_move 24 = .ok (.dup, 1) := by decide +kernel
theorem d_C_move_25 : decode b_C_move 25 = .ok (.getfield 46, 3) := by decide +kernel
theorem d_C_move_28 : decode b_C_move 28 = .ok (.iconst 1, 1) := by decide +kernel
theorem d_C_move_29 : decode b_C_move 29 = .ok (.iadd, 1) := by decide +kernel
theorem d_C_move_30 : decode b_C_move 30 = .ok (.putfield 46, 3) := by decide +kernel
theorem d_C_move_33 : decode b_C_move 33 = .ok (.aload_n 0, 1) := by decide +kernel
theorem d_C_move_34 : decode b_C_move 34 = .ok (.getfield 46, 3) := by decide +kernel
theorem d_C_move_37 : decode b_C_move 37 = .ok (.iconst 1, 1) := by decide +kernel
theorem d_C_move_38 : decode b_C_move 38 = .ok (.isub, 1) := by decide +kernel
theorem d_C_move_39 : decode b_C_move 39 = .ok (.ireturn, 1) := by decide +kernel
theorem d_C_cycle_0 : decode b_C_cycle 0 = .ok (.aload_n 0, 1) := by decide +kernel
theorem d_C_cycle_1 : decode b_C_cycle 1 = .ok (.iload_n 1, 1) := by decide +kernel
theorem d_C_cycle_2 : decode b_C_cycle 2 = .ok (.invokevirtual 53, 3) := by decide +kernel
theorem d_C_cycle_5 : decode b_C_cycle 5 = .ok (.ifCond .eq 24, 3) := by decide +kernel
theorem d_C_cycle_8 : decode b_C_cycle 8 = .ok (.aload_n 0, 1) := by decide +kernel
theorem d_C_cycle_9 : decode b_C_cycle 9 = .ok (.iload_n 2, 1) := by decide +kernel
theorem d_C_cycle_10 : decode b_C_cycle 10 = .ok (.invokevirtual 57, 3) := by decide +kernel
theorem d_C_cycle_13 : decode b_C_cycle 13 = .ok (.ifCond .eq 16, 3) := by decide +kernel
theorem d_C_cycle_16 : decode b_C_cycle 16 = .ok (.aload_n 0, 1) := by decide +kernel
theorem d_C_cycle_17 : decode b_C_cycle 17 = .ok (.iload_n 3, 1) := by decide +kernel
theorem d_C_cycle_18 : decode b_C_cycle 18 = .ok (.invokevirtual 57, 3) := by decide +kernel
theorem d_C_cycle_21 : decode b_C_cycle 21 = .ok (.ifCond .eq 8, 3) := by decide +kernel
theorem d_C_cycle_24 : decode b_C_cycle 24 = .ok (.iload_n 2, 1) := by decide +kernel
theorem d_C_cycle_25 : decode b_C_cycle 25 = .ok (.iload_n 3, 1) := by decide +kernel
theorem d_C_cycle_26 : decode b_C_cycle 26 = .ok (.if_icmp .ne 5, 3) := by decide +kernel
theorem d_C_cycle_29 : decode b_C_cycle 29 = .ok (.iconst 0, 1) := by decide +kernel
theorem d_C_cycle_30 : decode b_C_cycle 30 = .ok (.ireturn, 1) := by decide +kernel
theorem d_C_cycle_31 : decode b_C_cycle 31 = .ok (.aload_n 0, 1) := by decide +kernel
theorem d_C_cycle_32 : decode b_C_cycle 32 = .ok (.getfield 24, 3) := by decide +kernel
theorem d_C_cycle_35 : decode b_C_cycle 35 = .ok (.iload_n 1, 1) := by decide +kernel
theorem d_C_cycle_36 : decode b_C_cycle 36 = .ok (.aaload, 1) := by decide +kernel
theorem d_C_cycle_37 : decode b_C_cycle 37 = .ok (.astore 4, 2) := by decide +kernel
theorem d_C_cycle_39 : decode b_C_cycle 39 = .ok (.aload 4, 2) := by decide +kernel
theorem d_C_cycle_41 : decode b_C_cycle 41 = .ok (.iload_n 3, 1) := by decide +kernel
theorem d_C_cycle_42 : decode b_C_cycle 42 = .ok (.iaload, 1) := by decide +kernel
theorem d_C_cycle_43 : decode b_C_cycle 43 = .ok (.iload_n 3, 1) := by decide +kernel
theorem d_C_cycle_44 : decode b_C_cycle 44 = .ok (.if_icmp .eq 5, 3) := by decide +kernel
theorem d_C_cycle_47 : decode b_C_cycle 47 = .ok (.iconst 0, 1) := by decide +kernel
theorem d_C_cycle_48 : decode b_C_cycle 48 = .ok (.ireturn, 1) := by decide +kernel
theorem d_C_cycle_49 : decode b_C_cycle 49 = .ok (.aload 4, 2) := by decide +kernel
theorem d_C_cycle_51 : decode b_C_cycle 51 = .ok (.iload_n 3, 1) := by decide +kernel
theorem d_C_cycle_52 : decode b_C_cycle 52 = .ok (.aload 4, 2) := by decide +kernel
theorem d_C_cycle_54 : decode b_C_cycle 54 = .ok (.iload_n 2, 1) := by decide +kernel
theorem d_C_cycle_55 : decode b_C_cycle 55 = .ok (.iaload, 1) := by decide +kernel
theorem d_C_cycle_56 : decode b_C_cycle 56 = .ok (.iastore, 1) := by decide +kernel
theorem d_C_cycle_57 : decode b_C_cycle 57 = .ok (.aload 4, 2) := by decide +kernel
theorem d_C_cycle_59 : decode b_C_cycle 59 = .ok (.iload_n 2, 1) := by decide +kernel
theorem d_C_cycle_60 : decode b_C_cycle 60 = .ok (.iload_n 3, 1) := by decide +kernel
theorem d_C_cycle_61 : decode b_C_cycle 61 = .ok (.iastore, 1) := by decide +kernel
theorem d_C_cycle_62 : decode b_C_cycle 62 = .ok (.aload_n 0, 1) := by decide +kernel
theorem d_C_cycle_63 : decode b_C_cycle 63 = .ok (.iconst 1, 1) := by decide +kernel
theorem d_C_cycle_64 : decode b_C_cycle 64 = .ok (.putfield 60, 3) := by decide +kernel
theorem d_C_cycle_67 : decode b_C_cycle 67 = .ok (.iconst 1, 1) := by decide +kernel
theorem d_C_cycle_68 : decode b_C_cycle 68 = .ok (.ireturn, 1) := by decide +kernel
theorem d_C_run_0 : decode b_C_run 0 = .ok (.aload_n 0, 1) := by decide +kernel
theorem d_C_run_1 : decode b_C_run 1 = .ok (.invokevirtual 64, 3) := by decide +kernel
theorem d_C_run_4 : decode b_C_run 4 = .ok (.astore_n 1, 1) := by decide +kernel
theorem d_C_run_5 : decode b_C_run 5 = .ok (.iconst 0, 1) := by decide +kernel
theorem d_C_run_6 : decode b_C_run 6 = .ok (.istore_n 2, 1) := by decide +kernel
theorem d_C_run_7 : decode b_C_run 7 = .ok (.iconst 0, 1) := by decide +kernel
theorem d_C_run_8 : decode b_C_run 8 = .ok (.istore_n 3, 1) := by decide +kernel
theorem d_C_run_9 : decode b_C_run 9 = .ok (.iload_n 3, 1) := by decide +kernel
theorem d_C_run_10 : decode b_C_run 10 = .ok (.aload_n 0, 1) := by decide +kernel
theorem d_C_run_11 : decode b_C_run 11 = .ok (.getfield 18, 3) := by decide +kernel
theorem d_C_run_14 : decode b_C_run 14 = .ok (.if_icmp .ge 21, 3) := by decide +kernel
theorem d_C_run_17 : decode b_C_run 17 = .ok (.aload_n 1, 1) := by decide +kernel
theorem d_C_run_18 : decode b_C_run 18 = .ok (.iload_n 3, 1) := by decide +kernel
theorem d_C_run_19 : decode b_C_run 19 = .ok (.invokevirtual 68, 3) := by decide +kernel
theorem d_C_run_22 : decode b_C_run 22 = .ok (.iconst 2, 1) := by decide +kernel
theorem d_C_run_23 : decode b_C_run 23 = .ok (.if_icmp .lt 6, 3) := by decide +kernel
theorem d_C_run_26 : decode b_C_run 26 = .ok (.iinc 2 1, 3) := by decide +kernel
theorem d_C_run_29 : decode b_C_run 29 = .ok (.iinc 3 1, 3) := by decide +kernel
theorem d_C_run_32 : decode b_C_run 32 = .ok (.goto (-23), 3) := by decide +kernel
theorem d_C_run_35 : decode b_C_run 35 = .ok (.iload_n 2, 1) := by decide +kernel
theorem d_C_run_36 : decode b_C_run 36 = .ok (.ireturn, 1) := by decide +kernel
theorem d_C_base_0 : decode b_C_base 0 = .ok (.aload_n 0, 1) := by decide +kernel
theorem d_C_base_1 : decode b_C_base 1 = .ok (.invokevirtual 64, 3) := by decide +kernel
theorem d_C_base_4 : decode b_C_base 4 = .ok (.astore_n 2, 1) := by decide +kernel
theorem d_C_base_5 : decode b_C_base 5 = .ok (.iconst 0, 1) := by decide +kernel
theorem d_C_base_6 : decode b_C_base 6 = .ok (.istore_n 3, 1) := by decide +kernel
theorem d_C_base_7 : decode b_C_base 7 = .ok (.iconst 0, 1) := by decide +kernel
theorem d_C_base_8 : decode b_C_base 8 = .ok (.istore 4, 2) := by decide +kernel
theorem d_C_base_10 : decode b_C_base 10 = .ok (.iload 4, 2) := by decide +kernel
theorem d_C_base_12 : decode b_C_base 12 = .ok (.aload_n 0, 1) := by decide +kernel
theorem d_C_base_13 : decode b_C_base 13 = .ok (.getfield 18, 3) := by decide +kernel
theorem d_C_base_16 : decode b_C_base 16 = .ok (.if_icmp .ge 30, 3) := by decide +kernel
theorem d_C_base_19 : decode b_C_base 19 = .ok (.aload_n 2, 1) := by decide +kernel
theorem d_C_base_20 : decode b_C_base 20 = .ok (.iload 4, 2) := by decide +kernel
theorem d_C_base_22 : decode b_C_base 22 = .ok (.invokevirtual 68, 3) := by decide +kernel
theorem d_C_base_25 : decode b_C_base 25 = .ok (.iconst 2, 1) := by decide +kernel
theorem d_C_base_26 : decode b_C_base 26 = .ok (.if_icmp .lt 14, 3) := by decide +kernel
theorem d_C_base_29 : decode b_C_base 29 = .ok (.iload_n 3, 1) := by decide +kernel
theorem d_C_base_30 : decode b_C_base 30 = .ok (.iload_n 1, 1) := by decide +kernel
theorem d_C_base_31 : decode b_C_base 31 = .ok (.if_icmp .ne 6, 3) := by decide +kernel
theorem d_C_base_34 : decode b_C_base 34 = .ok (.iload 4, 2) := by decide +kernel
theorem d_C_base_36 : decode b_C_base 36 = .ok (.ireturn, 1) := by decide +kernel
theorem d_C_base_37 : decode b_C_base 37 = .ok (.iinc 3 1, 3) := by decide +kernel
theorem d_C_base_40 : decode b_C_base 40 = .ok (.iinc 4 1, 3) := by decide +kernel
theorem d_C_base_43 : decode b_C_base 43 = .ok (.goto (-33), 3) := by decide +kernel
theorem d_C_base_46 : decode b_C_base 46 = .ok (.iconst (-1), 1) := by decide +kernel
theorem d_C_base_47 : decode b_C_base 47 = .ok (.ireturn, 1) := by decide +kernel
theorem d_C_spread_0 : decode b_C_spread 0 = .ok (.aload_n 0, 1) := by decide +kernel
theorem d_C_spread_1 : decode b_C_spread 1 = .ok (.iload_n 1, 1) := by decide +kernel
theorem d_C_spread_2 : decode b_C_spread 2 = .ok (.invokevirtual 57, 3) := by decide +kernel
theorem d_C_spread_5 : decode b_C_spread 5 = .ok (.ifCond .eq 14, 3) := by decide +kernel
theorem d_C_spread_8 : decode b_C_spread 8 = .ok (.aload_n 0, 1) := by decide +kernel
theorem d_C_spread_9 : decode b_C_spread 9 = .ok (.invokevirtual 64, 3) := by decide +kernel
theorem d_C_spread_12 : decode b_C_spread 12 = .ok (.iload_n 1, 1) := by decide +kernel
theorem d_C_spread_13 : decode b_C_spread 13 = .ok (.invokevirtual 68, 3) := by decide +kernel
theorem d_C_spread_16 : decode b_C_spread 16 = .ok (.goto 4, 3) := by decide +kernel
theorem d_C_spread_19 : decode b_C_spread 19 = .ok (.iconst (-1), 1) := by decide +kernel
theorem d_C_spread_20 : decode b_C_spread 20 = .ok (.ireturn, 1) := by decide +kernel
theorem d_C_order_0 : decode b_C_order 0 = .ok (.aload_n 0, 1) := by decide +kernel
theorem d_C_order_1 : decode b_C_order 1 = .ok (.aload_n 0, 1) := by decide +kernel
theorem d_C_order_2 : decode b_C_order 2 = .ok (.invokevirtual 64, 3) := by decide +kernel
theorem d_C_order_5 : decode b_C_order 5 = .ok (.invokevirtual 74, 3) := by decide +kernel
theorem d_C_order_8 : decode b_C_order 8 = .ok (.aload_n 0, 1) := by decide +kernel
theorem d_C_order_9 : decode b_C_order 9 = .ok (.getfield 42, 3) := by decide +kernel
theorem d_C_order_12 : decode b_C_order 12 = .ok (.iload_n 1, 1) := by decide +kernel
theorem d_C_order_13 : decode b_C_order 13 = .ok (.invokevirtual 78, 3) := by decide +kernel
theorem d_C_order_16 : decode b_C_order 16 = .ok (.ireturn, 1) := by decide +kernel
theorem d_C_stabiliser_0 : decode b_C_stabiliser 0 = .ok (.aload_n 0, 1) := by decide +kernel
theorem d_C_stabiliser_1 : decode b_C_stabiliser 1 = .ok (.iload_n 1, 1) := by decide +kernel
theorem d_C_stabiliser_2 : decode b_C_stabiliser 2 = .ok (.invokevirtual 57, 3) := by decide +kernel
theorem d_C_stabiliser_5 : decode b_C_stabiliser 5 = .ok (.ifCond .ne 5, 3) := by decide +kernel
theorem d_C_stabiliser_8 : decode b_C_stabiliser 8 = .ok (.iconst (-1), 1) := by decide +kernel
theorem d_C_stabiliser_9 : decode b_C_stabiliser 9 = .ok (.ireturn, 1) := by decide +kernel
theorem d_C_stabiliser_10 : decode b_C_stabiliser 10 = .ok (.aload_n 0, 1) := by decide +kernel
theorem d_C_stabiliser_11 : decode b_C_stabiliser 11 = .ok (.getfield 35, 3) := by decide +kernel
theorem d_C_stabiliser_14 : decode b_C_stabiliser 14 = .ok (.invokevirtual 81, 3) := by decide +kernel
theorem d_C_stabiliser_17 : decode b_C_stabiliser 17 = .ok (.aload_n 0, 1) := by decide +kernel
theorem d_C_stabiliser_18 : decode b_C_stabiliser 18 = .ok (.getfield 35, 3) := by decide +kernel
theorem d_C_stabiliser_21 : decode b_C_stabiliser 21 = .ok (.aload_n 0, 1) := by decide +kernel
theorem d_C_stabiliser_22 : decode b_C_stabiliser 22 = .ok (.getfield 24, 3) := by decide +kernel
theorem d_C_stabiliser_25 : decode b_C_stabiliser 25 = .ok (.aload_n 0, 1) := by decide +kernel
theorem d_C_stabiliser_26 : decode b_C_stabiliser 26 = .ok (.getfield 46, 3) := by decide +kernel
theorem d_C_stabiliser_29 : decode b_C_stabiliser 29 = .ok (.invokevirtual 84, 3) := by decide +kernel
theorem d_C_stabiliser_32 : decode b_C_stabiliser 32 = .ok (.aload_n 0, 1) := by decide +kernel
theorem d_C_stabiliser_33 : decode b_C_stabiliser 33 = .ok (.aload_n 0, 1) := by decide +kernel
theorem d_C_stabiliser_34 : decode b_C_stabiliser 34 = .ok (.invokevirtual 64, 3) := by decide +kernel
theorem d_C_stabiliser_37 : decode b_C_stabiliser 37 = .ok (.invokevirtual 74, 3) := by decide +kernel
theorem d_C_stabiliser_40 : decode b_C_stabiliser 40 = .ok (.aload_n 0, 1) := by decide +kernel
theorem d_C_stabiliser_41 : decode b_C_stabiliser 41 = .ok (.getfield 42, 3) := by decide +kernel
theorem d_C_stabiliser_44 : decode b_C_stabiliser 44 = .ok (.aload_n 0, 1) := by decide +kernel
theorem d_C_stabiliser_45 : decode b_C_stabiliser 45 = .ok (.getfield 35, 3) := by decide +kernel
theorem d_C_stabiliser_48 : decode b_C_stabiliser 48 = .ok (.iload_n 1, 1) := by decide +kernel
theorem d_C_stabiliser_49 : decode b_C_stabiliser 49 = .ok (.invokevirtual 88, 3) := by decide +kernel
theorem d_C_stabiliser_52 : decode b_C_stabiliser 52 = .ok (.invokevirtual 91, 3) := by decide +kernel
theorem d_C_stabiliser_55 : decode b_C_stabiliser 55 = .ok (.aload_n 0, 1) := by decide +kernel
theorem d_C_stabiliser_56 : decode b_C_stabiliser 56 = .ok (.getfield 42, 3) := by decide +kernel
theorem d_C_stabiliser_59 : decode b_C_stabiliser 59 = .ok (.iload_n 2, 1) := by decide +kernel
theorem d_C_stabiliser_60 : decode b_C_stabiliser 60 = .ok (.invokevirtual 78, 3) := by decide +kernel
theorem d_C_stabiliser_63 : decode b_C_stabiliser 63 = .ok (.ireturn, 1) := by decide +kernel
theorem d_C_orbit_0 : decode b_C_orbit 0 = .ok (.aload_n 0, 1) := by decide +kernel
theorem d_C_orbit_1 : decode b_C_orbit 1 = .ok (.iload_n 1, 1) := by decide +kernel
theorem d_C_orbit_2 : decode b_C_orbit 2 = .ok (.invokevirtual 57, 3) := by decide +kernel
theorem d_C_orbit_5 : decode b_C_orbit 5 = .ok (.ifCond .ne 5, 3) := by decide +kernel
theorem d_C_orbit_8 : decode b_C_orbit 8 = .ok (.iconst (-1), 1) := by decide +kernel
theorem d_C_orbit_9 : decode b_C_orbit 9 = .ok (.ireturn, 1) := by decide +kernel
theorem d_C_orbit_10 : decode b_C_orbit 10 = .ok (.aload_n 0, 1) := by decide +kernel
theorem d_C_orbit_11 : decode b_C_orbit 11 = .ok (.getfield 35, 3) := by decide +kernel
theorem d_C_orbit_14 : decode b_C_orbit 14 = .ok (.invokevirtual 81, 3) := by decide +kernel
theorem d_C_orbit_17 : decode b_C_orbit 17 = .ok (.aload_n 0, 1) := by decide +kernel
theorem d_C_orbit_18 : decode b_C_orbit 18 = .ok (.getfield 35, 3) := by decide +kernel
theorem d_C_orbit_21 : decode b_C_orbit 21 = .ok (.aload_n 0, 1) := by decide +kernel
theorem d_C_orbit_22 : decode b_C_orbit 22 = .ok (.getfield 24, 3) := by decide +kernel
theorem d_C_orbit_25 : decode b_C_orbit 25 = .ok (.aload_n 0, 1) := by decide +kernel
theorem d_C_orbit_26 : decode b_C_orbit 26 = .ok (.getfield 46, 3) := by decide +kernel
theorem d_C_orbit_29 : decode b_C_orbit 29 = .ok (.invokevirtual 84, 3) := by decide +kernel
theorem d_C_orbit_32 : decode b_C_orbit 32 = .ok (.aload_n 0, 1) := by decide +kernel
theorem d_C_orbit_33 : decode b_C_orbit 33 = .ok (.getfield 35, 3) := by decide +kernel
theorem d_C_orbit_36 : decode b_C_orbit 36 = .ok (.iload_n 1, 1) := by decide +kernel
theorem d_C_orbit_37 : decode b_C_orbit 37 = .ok (.invokevirtual 94, 3) := by decide +kernel
theorem d_C_orbit_40 : decode b_C_orbit 40 = .ok (.ireturn, 1) := by decide +kernel
theorem d_C_block_0 : decode b_C_block 0 = .ok (.aload_n 0, 1) := by decide +kernel
theorem d_C_block_1 : decode b_C_block 1 = .ok (.iload_n 1, 1) := by decide +kernel
theorem d_C_block_2 : decode b_C_block 2 = .ok (.invokevirtual 57, 3) := by decide +kernel
theorem d_C_block_5 : decode b_C_block 5 = .ok (.ifCond .eq 11, 3) := by decide +kernel
theorem d_C_block_8 : decode b_C_block 8 = .ok (.aload_n 0, 1) := by decide +kernel
theorem d_C_block_9 : decode b_C_block 9 = .ok (.iload_n 2, 1) := by decide +kernel
theorem d_C_block_10 : decode b_C_block 10 = .ok (.invokevirtual 57, 3) := by decide +kernel
theorem d_C_block_13 : decode b_C_block 13 = .ok (.ifCond .ne 5, 3) := by decide +kernel
theorem d_C_block_16 : decode b_C_block 16 = .ok (.iconst (-1), 1) := by decide +kernel
theorem d_C_block_17 : decode b_C_block 17 = .ok (.ireturn, 1) := by decide +kernel
theorem d_C_block_18 : decode b_C_block 18 = .ok (.aload_n 0, 1) := by decide +kernel
theorem d_C_block_19 : decode b_C_block 19 = .ok (.getfield 35, 3) := by decide +kernel
theorem d_C_block_22 : decode b_C_block 22 = .ok (.invokevirtual 81, 3) := by decide +kernel
theorem d_C_block_25 : decode b_C_block 25 = .ok (.aload_n 0, 1) := by decide +kernel
theorem d_C_block_26 : decode b_C_block 26 = .ok (.getfield 35, 3) := by decide +kernel
theorem d_C_block_29 : decode b_C_block 29 = .ok (.iload_n 1, 1) := by decide +kernel
theorem d_C_block_30 : decode b_C_block 30 = .ok (.iload_n 2, 1) := by decide +kernel
theorem d_C_block_31 : decode b_C_block 31 = .ok (.invokevirtual 97, 3) := by decide +kernel
theorem d_C_block_34 : decode b_C_block 34 = .ok (.pop, 1) := by decide +kernel
theorem d_C_block_35 : decode b_C_block 35 = .ok (.aload_n 0, 1) := by decide +kernel
theorem d_C_block_36 : decode b_C_block 36 = .ok (.getfield 35, 3) := by decide +kernel
theorem d_C_block_39 : decode b_C_block 39 = .ok (.aload_n 0, 1) := by decide +kernel
theorem d_C_block_40 : decode b_C_block 40 = .ok (.getfield 24, 3) := by decide +kernel
theorem d_C_block_43 : decode b_C_block 43 = .ok (.aload_n 0, 1) := by decide +kernel
theorem d_C_block_44 : decode b_C_block 44 = .ok (.getfield 46, 3) := by decide +kernel
theorem d_C_block_47 : decode b_C_block 47 = .ok (.invokevirtual 101, 3) := by decide +kernel
theorem d_C_block_50 : decode b_C_block 50 = .ok (.aload_n 0, 1) := by decide +kernel
theorem d_C_block_51 : decode b_C_block 51 = .ok (.getfield 35, 3) := by decide +kernel
theorem d_C_block_54 : decode b_C_block 54 = .ok (.iload_n 1, 1) := by decide +kernel
theorem d_C_block_55 : decode b_C_block 55 = .ok (.invokevirtual 88, 3) := by decide +kernel
theorem d_C_block_58 : decode b_C_block 58 = .ok (.ireturn, 1) := by decide +kernel
theorem d_C_state_0 : decode b_C_state 0 = .ok (.aload_n 0, 1) := by decide +kernel
theorem d_C_state_1 : decode b_C_state 1 = .ok (.getfield 104, 3) := by decide +kernel
theorem d_C_state_4 : decode b_C_state 4 = .ok (.bipush 20, 2) := by decide +kernel
theorem d_C_state_6 : decode b_C_state 6 = .ok (.if_icmp .lt 5, 3) := by decide +kernel
theorem d_C_state_9 : decode b_C_state 9 = .ok (.iconst (-1), 1) := by decide +kernel
theorem d_C_state_10 : decode b_C_state 10 = .ok (.ireturn, 1) := by decide +kernel
theorem d_C_state_11 : decode b_C_state 11 = .ok (.aload_n 0, 1) := by decide +kernel
theorem d_C_state_12 : decode b_C_state 12 = .ok (.getfield 27, 3) := by decide +kernel
theorem d_C_state_15 : decode b_C_state 15 = .ok (.aload_n 0, 1) := by decide +kernel
theorem d_C_state_16 : decode b_C_state 16 = .ok (.getfield 104, 3) := by decide +kernel
theorem d_C_state_19 : decode b_C_state 19 = .ok (.aaload, 1) := by decide +kernel
theorem d_C_state_20 : decode b_C_state 20 = .ok (.invokestatic 49, 3) := by decide +kernel
theorem d_C_state_23 : decode b_C_state 23 = .ok (.aload_n 0, 1) := by decide +kernel
theorem d_C_state_24 : decode b_C_state 24 = .ok (.dup, 1) := by decide +kernel
theorem d_C_state_25 : decode b_C_state 25 = .ok (.getfield 104, 3) := by decide +kernel
theorem d_C_state_28 : decode b_C_state 28 = .ok (.iconst 1, 1) := by decide +kernel
theorem d_C_state_29 : decode b_C_state 29 = .ok (.iadd, 1) := by decide +kernel
theorem d_C_state_30 : decode b_C_state 30 = .ok (.putfield 104, 3) := by decide +kernel
theorem d_C_state_33 : decode b_C_state 33 = .ok (.aload_n 0, 1) := by decide +kernel
theorem d_C_state_34 : decode b_C_state 34 = .ok (.getfield 104, 3) := by decide +kernel
theorem d_C_state_37 : decode b_C_state 37 = .ok (.iconst 1, 1) := by decide +kernel
theorem d_C_state_38 : decode b_C_state 38 = .ok (.isub, 1) := by decide +kernel
theorem d_C_state_39 : decode b_C_state 39 = .ok (.ireturn, 1) := by decide +kernel
theorem d_C_apply_0 : decode b_C_apply 0 = .ok (.aload_n 0, 1) := by decide +kernel
theorem d_C_apply_1 : decode b_C_apply 1 = .ok (.iload_n 1, 1) := by decide +kernel
theorem d_C_apply_2 : decode b_C_apply 2 = .ok (.invokevirtual 107, 3) := by decide +kernel
theorem d_C_apply_5 : decode b_C_apply 5 = .ok (.ifCond .eq 11, 3) := by decide +kernel
theorem d_C_apply_8 : decode b_C_apply 8 = .ok (.aload_n 0, 1) := by decide +kernel
theorem d_C_apply_9 : decode b_C_apply 9 = .ok (.iload_n 2, 1) := by decide +kernel
theorem d_C_apply_10 : decode b_C_apply 10 = .ok (.invokevirtual 53, 3) := by decide +kernel
theorem d_C_apply_13 : decode b_C_apply 13 = .ok (.ifCond .ne 5, 3) := by decide +kernel
theorem d_C_apply_16 : decode b_C_apply 16 = .ok (.iconst 0, 1) := by decide +kernel
theorem d_C_apply_17 : decode b_C_apply 17 = .ok (.ireturn, 1) := by decide +kernel
theorem d_C_apply_18 : decode b_C_apply 18 = .ok (.aload_n 0, 1) := by decide +kernel
theorem d_C_apply_19 : decode b_C_apply 19 = .ok (.getfield 27, 3) := by decide +kernel
theorem d_C_apply_22 : decode b_C_apply 22 = .ok (.iload_n 1, 1) := by decide +kernel
theorem d_C_apply_23 : decode b_C_apply 23 = .ok (.aaload, 1) := by decide +kernel
theorem d_C_apply_24 : decode b_C_apply 24 = .ok (.aload_n 0, 1) := by decide +kernel
theorem d_C_apply_25 : decode b_C_apply 25 = .ok (.getfield 24, 3) := by decide +kernel
theorem d_C_apply_28 : decode b_C_apply 28 = .ok (.iload_n 2, 1) := by decide +kernel
theorem d_C_apply_29 : decode b_C_apply 29 = .ok (.aaload, 1) := by decide +kernel
theorem d_C_apply_30 : decode b_C_apply 30 = .ok (.invokestatic 110, 3) := by decide +kernel
theorem d_C_apply_33 : decode b_C_apply 33 = .ok (.iconst 1, 1) := by decide +kernel
theorem d_C_apply_34 : decode b_C_apply 34 = .ok (.ireturn, 1) := by decide +kernel
theorem d_C_exchange_0 : decode b_C_exchange 0 = .ok (.aload_n 0, 1) := by decide +kernel
theorem d_C_exchange_1 : decode b_C_exchange 1 = .ok (.iload_n 1, 1) := by decide +kernel
theorem d_C_exchange_2 : decode b_C_exchange 2 = .ok (.invokevirtual 107, 3) := by decide +kernel
theorem d_C_exchange_5 : decode b_C_exchange 5 = .ok (.ifCond .eq 24, 3) := by decide +kernel
theorem d_C_exchange_8 : decode b_C_exchange 8 = .ok (.aload_n 0, 1) := by decide +kernel
theorem d_C_exchange_9 : decode b_C_exchange 9 = .ok (.iload_n 2, 1) := by decide +kernel
theorem d_C_exchange_10 : decode b_C_exchange 10 = .ok (.invokevirtual 57, 3) := by decide +kernel
theorem d_C_exchange_13 : decode b_C_exchange 13 = .ok (.ifCond .eq 16, 3) := by decide +kernel
theorem d_C_exchange_16 : decode b_C_exchange 16 = .ok (.aload_n 0, 1) := by decide +kernel
theorem d_C_exchange_17 : decode b_C_exchange 17 = .ok (.iload_n 3, 1) := by decide +kernel
theorem d_C_exchange_18 : decode b_C_exchange 18 = .ok (.invokevirtual 57, 3) := by decide +kernel
theorem d_C_exchange_21 : decode b_C_exchange 21 = .ok (.ifCond .eq 8, 3) := by decide +kernel
theorem d_C_exchange_24 : decode b_C_exchange 24 = .ok (.iload_n 2, 1) := by decide +kernel
theorem d_C_exchange_25 : decode b_C_exchange 25 = .ok (.iload_n 3, 1) := by decide +kernel
theorem d_C_exchange_26 : decode b_C_exchange 26 = .ok (.if_icmp .ne 5, 3) := by decide +kernel
theorem d_C_exchange_29 : decode b_C_exchange 29 = .ok (.iconst 0, 1) := by decide +kernel
theorem d_C_exchange_30 : decode b_C_exchange 30 = .ok (.ireturn, 1) := by decide +kernel
theorem d_C_exchange_31 : decode b_C_exchange 31 = .ok (.aload_n 0, 1) := by decide +kernel
theorem d_C_exchange_32 : decode b_C_exchange 32 = .ok (.getfield 27, 3) := by decide +kernel
theorem d_C_exchange_35 : decode b_C_exchange 35 = .ok (.iload_n 1, 1) := by decide +kernel
theorem d_C_exchange_36 : decode b_C_exchange 36 = .ok (.aaload, 1) := by decide +kernel
theorem d_C_exchange_37 : decode b_C_exchange 37 = .ok (.astore 4, 2) := by decide +kernel
theorem d_C_exchange_39 : decode b_C_exchange 39 = .ok (.iconst 0, 1) := by decide +kernel
theorem d_C_exchange_40 : decode b_C_exchange 40 = .ok (.istore 5, 2) := by decide +kernel
theorem d_C_exchange_42 : decode b_C_exchange 42 = .ok (.iload 5, 2) := by decide +kernel
theorem d_C_exchange_44 : decode b_C_exchange 44 = .ok (.aload_n 0, 1) := by decide +kernel
theorem d_C_exchange_45 : decode b_C_exchange 45 = .ok (.getfield 18, 3) := by decide +kernel
theorem d_C_exchange_48 : decode b_C_exchange 48 = .ok (.if_icmp .ge 42, 3) := by decide +kernel
theorem d_C_exchange_51 : decode b_C_exchange 51 = .ok (.aload 4, 2) := by decide +kernel
theorem d_C_exchange_53 : decode b_C_exchange 53 = .ok (.iload 5, 2) := by decide +kernel
theorem d_C_exchange_55 : decode b_C_exchange 55 = .ok (.iaload, 1) := by decide +kernel
theorem d_C_exchange_56 : decode b_C_exchange 56 = .ok (.iload_n 2, 1) := by decide +kernel
theorem d_C_exchange_57 : decode b_C_exchange 57 = .ok (.if_icmp .ne 12, 3) := by decide +kernel
theorem d_C_exchange_60 : decode b_C_exchange 60 = .ok (.aload 4, 2) := by decide +kernel
theorem d_C_exchange_62 : decode b_C_exchange 62 = .ok (.iload 5, 2) := by decide +kernel
theorem d_C_exchange_64 : decode b_C_exchange 64 = .ok (.iload_n 3, 1) := by decide +kernel
theorem d_C_exchange_65 : decode b_C_exchange 65 = .ok (.iastore, 1) := by decide +kernel
theorem d_C_exchange_66 : decode b_C_exchange 66 = .ok (.goto 18, 3) := by decide +kernel
theorem d_C_exchange_69 : decode b_C_exchange 69 = .ok (.aload 4, 2) := by decide +kernel
theorem d_C_exchange_71 : decode b_C_exchange 71 = .ok (.iload 5, 2) := by decide +kernel
theorem d_C_exchange_73 : decode b_C_exchange 73 = .ok (.iaload, 1) := by decide +kernel
theorem d_C_exchange_74 : decode b_C_exchange 74 = .ok (.iload_n 3, 1) := by decide +kernel
theorem d_C_exchange_75 : decode b_C_exchange 75 = .ok (.if_icmp .ne 9, 3) := by decide +kernel
theorem d_C_exchange_78 : decode b_C_exchange 78 = .ok (.aload 4, 2) := by decide +kernel
theorem d_C_exchange_80 : decode b_C_exchange 80 = .ok (.iload 5, 2) := by decide +kernel
theorem d_C_exchange_82 : decode b_C_exchange 82 = .ok (.iload_n 2, 1) := by decide +kernel
theorem d_C_exchange_83 : decode b_C_exchange 83 = .ok (.iastore, 1) := by decide +kernel
theorem d_C_exchange_84 : decode b_C_exchange 84 = .ok (.iinc 5 1, 3) := by decide +kernel
theorem d_C_exchange_87 : decode b_C_exchange 87 = .ok (.goto (-45), 3) := by decide +kernel
theorem d_C_exchange_90 : decode b_C_exchange 90 = .ok (.iconst 1, 1) := by decide +kernel
theorem d_C_exchange_91 : decode b_C_exchange 91 = .ok (.ireturn, 1) := by decide +kernel
theorem d_C_scramble_0 : decode b_C_scramble 0 = .ok (.aload_n 0, 1) := by decide +kernel
theorem d_C_scramble_1 : decode b_C_scramble 1 = .ok (.iload_n 1, 1) := by decide +kernel
theorem d_C_scramble_2 : decode b_C_scramble 2 = .ok (.invokevirtual 107, 3) := by decide +kernel
theorem d_C_scramble_5 : decode b_C_scramble 5 = .ok (.ifCond .eq 24, 3) := by decide +kernel
theorem d_C_scramble_8 : decode b_C_scramble 8 = .ok (.aload_n 0, 1) := by decide +kernel
theorem d_C_scramble_9 : decode b_C_scramble 9 = .ok (.getfield 46, 3) := by decide +kernel
theorem d_C_scramble_12 : decode b_C_scramble 12 = .ok (.iconst 1, 1) := by decide +kernel
theorem d_C_scramble_13 : decode b_C_scramble 13 = .ok (.if_icmp .lt 16, 3) := by decide +kernel
theorem d_C_scramble_16 : decode b_C_scramble 16 = .ok (.iload 4, 2) := by decide +kernel
theorem d_C_scramble_18 : decode b_C_scramble 18 = .ok (.ifCond .lt 11, 3) := by decide +kernel
theorem d_C_scramble_21 : decode b_C_scramble 21 = .ok (.iload 4, 2) := by decide +kernel
theorem d_C_scramble_23 : decode b_C_scramble 23 = .ok (.sipush 1000, 3) := by decide +kernel
theorem d_C_scramble_26 : decode b_C_scramble 26 = .ok (.if_icmp .le 5, 3) := by decide +kernel
theorem d_C_scramble_29 : decode b_C_scramble 29 = .ok (.iconst 0, 1) := by decide +kernel
theorem d_C_scramble_30 : decode b_C_scramble 30 = .ok (.ireturn, 1) := by decide +kernel
theorem d_C_scramble_31 : decode b_C_scramble 31 = .ok (.lload_n 2, 1) := by decide +kernel
theorem d_C_scramble_32 : decode b_C_scramble 32 = .ok (.lstore 5, 2) := by decide +kernel
theorem d_C_scramble_34 : decode b_C_scramble 34 = .ok (.iconst 0, 1) := by decide +kernel
theorem d_C_scramble_35 : decode b_C_scramble 35 = .ok (.istore 7, 2) := by decide +kernel
theorem d_C_scramble_37 : decode b_C_scramble 37 = .ok (.iload 7, 2) := by decide +kernel
theorem d_C_scramble_39 : decode b_C_scramble 39 = .ok (.iload 4, 2) := by decide +kernel
theorem d_C_scramble_41 : decode b_C_scramble 41 = .ok (.if_icmp .ge 51, 3) := by decide +kernel
theorem d_C_scramble_44 : decode b_C_scramble 44 = .ok (.ldc2_w 114, 3) := by decide +kernel
theorem d_C_scramble_47 : decode b_C_scramble 47 = .ok (.lload 5, 2) := by decide +kernel
theorem d_C_scramble_49 : decode b_C_scramble 49 = .ok (.lmul, 1) := by decide +kernel
theorem d_C_scramble_50 : decode b_C_scramble 50 = .ok (.ldc2_w 116, 3) := by decide +kernel
theorem d_C_scramble_53 : decode b_C_scramble 53 = .ok (.ladd, 1) := by decide +kernel
theorem d_C_scramble_54 : decode b_C_scramble 54 = .ok (.lstore 5, 2) := by decide +kernel
theorem d_C_scramble_56 : decode b_C_scramble 56 = .ok (.lload 5, 2) := by decide +kernel
theorem d_C_scramble_58 : decode b_C_scramble 58 = .ok (.bipush 33, 2) := by decide +kernel
theorem d_C_scramble_60 : decode b_C_scramble 60 = .ok (.lushr, 1) := by decide +kernel
theorem d_C_scramble_61 : decode b_C_scramble 61 = .ok (.aload_n 0, 1) := by decide +kernel
theorem d_C_scramble_62 : decode b_C_scramble 62 = .ok (.getfield 46, 3) := by decide +kernel
theorem d_C_scramble_65 : decode b_C_scramble 65 = .ok (.i2l, 1) := by decide +kernel
theorem d_C_scramble_66 : decode b_C_scramble 66 = .ok (.lrem, 1) := by decide +kernel
theorem d_C_scramble_67 : decode b_C_scramble 67 = .ok (.l2i, 1) := by decide +kernel
theorem d_C_scramble_68 : decode b_C_scramble 68 = .ok (.istore 8, 2) := by decide +kernel
theorem d_C_scramble_70 : decode b_C_scramble 70 = .ok (.aload_n 0, 1) := by decide +kernel
theorem d_C_scramble_71 : decode b_C_scramble 71 = .ok (.getfield 27, 3) := by decide +kernel
theorem d_C_scramble_74 : decode b_C_scramble 74 = .ok (.iload_n 1, 1) := by decide +kernel
theorem d_C_scramble_75 : decode b_C_scramble 75 = .ok (.aaload, 1) := by decide +kernel
theorem d_C_scramble_76 : decode b_C_scramble 76 = .ok (.aload_n 0, 1) := by decide +kernel
theorem d_C_scramble_77 : decode b_C_scramble 77 = .ok (.getfield 24, 3) := by decide +kernel
theorem d_C_scramble_80 : decode b_C_scramble 80 = .ok (.iload 8, 2) := by decide +kernel
theorem d_C_scramble_82 : decode b_C_scramble 82 = .ok (.aaload, 1) := by decide +kernel
theorem d_C_scramble_83 : decode b_C_scramble 83 = .ok (.invokestatic 110, 3) := by decide +kernel
theorem d_C_scramble_86 : decode b_C_scramble 86 = .ok (.iinc 7 1, 3) := by decide +kernel
theorem d_C_scramble_89 : decode b_C_scramble 89 = .ok (.goto (-52), 3) := by decide +kernel
theorem d_C_scramble_92 : decode b_C_scramble 92 = .ok (.iconst 1, 1) := by decide +kernel
theorem d_C_scramble_93 : decode b_C_scramble 93 = .ok (.ireturn, 1) := by decide +kernel
theorem d_C_image_0 : decode b_C_image 0 = .ok (.aload_n 0, 1) := by decide +kernel
theorem d_C_image_1 : decode b_C_image 1 = .ok (.iload_n 1, 1) := by decide +kernel
theorem d_C_image_2 : decode b_C_image 2 = .ok (.invokevirtual 107, 3) := by decide +kernel
theorem d_C_image_5 : decode b_C_image 5 = .ok (.ifCond .eq 22, 3) := by decide +kernel
theorem d_C_image_8 : decode b_C_image 8 = .ok (.aload_n 0, 1) := by decide +kernel
theorem d_C_image_9 : decode b_C_image 9 = .ok (.iload_n 2, 1) := by decide +kernel
theorem d_C_image_10 : decode b_C_image 10 = .ok (.invokevirtual 57, 3) := by decide +kernel
theorem d_C_image_13 : decode b_C_image 13 = .ok (.ifCond .eq 14, 3) := by decide +kernel
theorem d_C_image_16 : decode b_C_image 16 = .ok (.aload_n 0, 1) := by decide +kernel
theorem d_C_image_17 : decode b_C_image 17 = .ok (.getfield 27, 3) := by decide +kernel
theorem d_C_image_20 : decode b_C_image 20 = .ok (.iload_n 1, 1) := by decide +kernel
theorem d_C_image_21 : decode b_C_image 21 = .ok (.aaload, 1) := by decide +kernel
theorem d_C_image_22 : decode b_C_image 22 = .ok (.iload_n 2, 1) := by decide +kernel
theorem d_C_image_23 : decode b_C_image 23 = .ok (.iaload, 1) := by decide +kernel
theorem d_C_image_24 : decode b_C_image 24 = .ok (.goto 4, 3) := by decide +kernel
theorem d_C_image_27 : decode b_C_image 27 = .ok (.iconst (-1), 1) := by decide +kernel
theorem d_C_image_28 : decode b_C_image 28 = .ok (.ireturn, 1) := by decide +kernel
theorem d_C_member_0 : decode b_C_member 0 = .ok (.aload_n 0, 1) := by decide +kernel
theorem d_C_member_1 : decode b_C_member 1 = .ok (.iload_n 1, 1) := by decide +kernel
theorem d_C_member_2 : decode b_C_member 2 = .ok (.invokevirtual 107, 3) := by decide +kernel
theorem d_C_member_5 : decode b_C_member 5 = .ok (.ifCond .ne 5, 3) := by decide +kernel
theorem d_C_member_8 : decode b_C_member 8 = .ok (.iconst (-1), 1) := by decide +kernel
theorem d_C_member_9 : decode b_C_member 9 = .ok (.ireturn, 1) := by decide +kernel
theorem d_C_member_10 : decode b_C_member 10 = .ok (.aload_n 0, 1) := by decide +kernel
theorem d_C_member_11 : decode b_C_member 11 = .ok (.invokevirtual 64, 3) := by decide +kernel
theorem d_C_member_14 : decode b_C_member 14 = .ok (.aload_n 0, 1) := by decide +kernel
theorem d_C_member_15 : decode b_C_member 15 = .ok (.getfield 27, 3) := by decide +kernel
theorem d_C_member_18 : decode b_C_member 18 = .ok (.iload_n 1, 1) := by decide +kernel
theorem d_C_member_19 : decode b_C_member 19 = .ok (.aaload, 1) := by decide +kernel
theorem d_C_member_20 : decode b_C_member 20 = .ok (.invokevirtual 118, 3) := by decide +kernel
theorem d_C_member_23 : decode b_C_member 23 = .ok (.aload_n 0, 1) := by decide +kernel
theorem d_C_member_24 : decode b_C_member 24 = .ok (.getfield 18, 3) := by decide +kernel
theorem d_C_member_27 : decode b_C_member 27 = .ok (.if_icmp .ne 7, 3) := by decide +kernel
theorem d_C_member_30 : decode b_C_member 30 = .ok (.iconst 1, 1) := by decide +kernel
theorem d_C_member_31 : decode b_C_member 31 = .ok (.goto 4, 3) := by decide +kernel
theorem d_C_member_34 : decode b_C_member 34 = .ok (.iconst 0, 1) := by decide +kernel
theorem d_C_member_35 : decode b_C_member 35 = .ok (.ireturn, 1) := by decide +kernel
theorem d_C_level_0 : decode b_C_level 0 = .ok (.aload_n 0, 1) := by decide +kernel
theorem d_C_level_1 : decode b_C_level 1 = .ok (.iload_n 1, 1) := by decide +kernel
theorem d_C_level_2 : decode b_C_level 2 = .ok (.invokevirtual 107, 3) := by decide +kernel
theorem d_C_level_5 : decode b_C_level 5 = .ok (.ifCond .eq 19, 3) := by decide +kernel
theorem d_C_level_8 : decode b_C_level 8 = .ok (.aload_n 0, 1) := by decide +kernel
theorem d_C_level_9 : decode b_C_level 9 = .ok (.invokevirtual 64, 3) := by decide +kernel
theorem d_C_level_12 : decode b_C_level 12 = .ok (.aload_n 0, 1) := by decide +kernel
theorem d_C_level_13 : decode b_C_level 13 = .ok (.getfield 27, 3) := by decide +kernel
theorem d_C_level_16 : decode b_C_level 16 = .ok (.iload_n 1, 1) := by decide +kernel
theorem d_C_level_17 : decode b_C_level 17 = .ok (.aaload, 1) := by decide +kernel
theorem d_C_level_18 : decode b_C_level 18 = .ok (.invokevirtual 118, 3) := by decide +kernel
theorem d_C_level_21 : decode b_C_level 21 = .ok (.goto 4, 3) := by decide +kernel
theorem d_C_level_24 : decode b_C_level 24 = .ok (.iconst (-1), 1) := by decide +kernel
theorem d_C_level_25 : decode b_C_level 25 = .ok (.ireturn, 1) := by decide +kernel
theorem d_C_parity_0 : decode b_C_parity 0 = .ok (.aload_n 0, 1) := by decide +kernel
theorem d_C_parity_1 : decode b_C_parity 1 = .ok (.iload_n 1, 1) := by decide +kernel
theorem d_C_parity_2 : decode b_C_parity 2 = .ok (.invokevirtual 107, 3) := by decide +kernel
theorem d_C_parity_5 : decode b_C_parity 5 = .ok (.ifCond .ne 5, 3) := by decide +kernel
theorem d_C_parity_8 : decode b_C_parity 8 = .ok (.iconst (-1), 1) := by decide +kernel
theorem d_C_parity_9 : decode b_C_parity 9 = .ok (.ireturn, 1) := by decide +kernel
theorem d_C_parity_10 : decode b_C_parity 10 = .ok (.aload_n 0, 1) := by decide +kernel
theorem d_C_parity_11 : decode b_C_parity 11 = .ok (.getfield 27, 3) := by decide +kernel
theorem d_C_parity_14 : decode b_C_parity 14 = .ok (.iload_n 1, 1) := by decide +kernel
theorem d_C_parity_15 : decode b_C_parity 15 = .ok (.aaload, 1) := by decide +kernel
theorem d_C_parity_16 : decode b_C_parity 16 = .ok (.astore_n 2, 1) := by decide +kernel
theorem d_C_parity_17 : decode b_C_parity 17 = .ok (.iconst 0, 1) := by decide +kernel
theorem d_C_parity_18 : decode b_C_parity 18 = .ok (.istore_n 3, 1) := by decide +kernel
theorem d_C_parity_19 : decode b_C_parity 19 = .ok (.iconst 0, 1) := by decide +kernel
theorem d_C_parity_20 : decode b_C_parity 20 = .ok (.istore 4, 2) := by decide +kernel
theorem d_C_parity_22 : decode b_C_parity 22 = .ok (.iload 4, 2) := by decide +kernel
theorem d_C_parity_24 : decode b_C_parity 24 = .ok (.aload_n 0, 1) := by decide +kernel
theorem d_C_parity_25 : decode b_C_parity 25 = .ok (.getfield 18, 3) := by decide +kernel
theorem d_C_parity_28 : decode b_C_parity 28 = .ok (.if_icmp .ge 44, 3) := by decide +kernel
theorem d_C_parity_31 : decode b_C_parity 31 = .ok (.iload 4, 2) := by decide +kernel
theorem d_C_parity_33 : decode b_C_parity 33 = .ok (.iconst 1, 1) := by decide +kernel
theorem d_C_parity_34 : decode b_C_parity 34 = .ok (.iadd, 1) := by decide +kernel
theorem d_C_parity_35 : decode b_C_parity 35 = .ok (.istore 5, 2) := by decide +kernel
theorem d_C_parity_37 : decode b_C_parity 37 = .ok (.iload 5, 2) := by decide +kernel
theorem d_C_parity_39 : decode b_C_parity 39 = .ok (.aload_n 0, 1) := by decide +kernel
theorem d_C_parity_40 : decode b_C_parity 40 = .ok (.getfield 18, 3) := by decide +kernel
theorem d_C_parity_43 : decode b_C_parity 43 = .ok (.if_icmp .ge 23, 3) := by decide +kernel
theorem d_C_parity_46 : decode b_C_parity 46 = .ok (.aload_n 2, 1) := by decide +kernel
theorem d_C_parity_47 : decode b_C_parity 47 = .ok (.iload 4, 2) := by decide +kernel
theorem d_C_parity_49 : decode b_C_parity 49 = .ok (.iaload, 1) := by decide +kernel
theorem d_C_parity_50 : decode b_C_parity 50 = .ok (.aload_n 2, 1) := by decide +kernel
theorem d_C_parity_51 : decode b_C_parity 51 = .ok (.iload 5, 2) := by decide +kernel
theorem d_C_parity_53 : decode b_C_parity 53 = .ok (.iaload, 1) := by decide +kernel
theorem d_C_parity_54 : decode b_C_parity 54 = .ok (.if_icmp .le 6, 3) := by decide +kernel
theorem d_C_parity_57 : decode b_C_parity 57 = .ok (.iinc 3 1, 3) := by decide +kernel
theorem d_C_parity_60 : decode b_C_parity 60 = .ok (.iinc 5 1, 3) := by decide +kernel
theorem d_C_parity_63 : decode b_C_parity 63 = .ok (.goto (-26), 3) := by decide +kernel
theorem d_C_parity_66 : decode b_C_parity 66 = .ok (.iinc 4 1, 3) := by decide +kernel
theorem d_C_parity_69 : decode b_C_parity 69 = .ok (.goto (-47), 3) := by decide +kernel
theorem d_C_parity_72 : decode b_C_parity 72 = .ok (.iload_n 3, 1) := by decide +kernel
theorem d_C_parity_73 : decode b_C_parity 73 = .ok (.iconst 2, 1) := by decide +kernel
theorem d_C_parity_74 : decode b_C_parity 74 = .ok (.irem, 1) := by decide +kernel
theorem d_C_parity_75 : decode b_C_parity 75 = .ok (.ireturn, 1) := by decide +kernel
theorem d_C_times_0 : decode b_C_times 0 = .ok (.aload_n 0, 1) := by decide +kernel
theorem d_C_times_1 : decode b_C_times 1 = .ok (.iload_n 1, 1) := by decide +kernel
theorem d_C_times_2 : decode b_C_times 2 = .ok (.invokevirtual 107, 3) := by decide +kernel
theorem d_C_times_5 : decode b_C_times 5 = .ok (.ifCond .ne 5, 3) := by decide +kernel
theorem d_C_times_8 : decode b_C_times 8 = .ok (.lconst 0, 1) := by decide +kernel
theorem d_C_times_9 : decode b_C_times 9 = .ok (.lreturn, 1) := by decide +kernel
theorem d_C_times_10 : decode b_C_times 10 = .ok (.lconst 1, 1) := by decide +kernel
theorem d_C_times_11 : decode b_C_times 11 = .ok (.lstore_n 2, 1) := by decide +kernel
theorem d_C_times_12 : decode b_C_times 12 = .ok (.iconst 0, 1) := by decide +kernel
theorem d_C_times_13 : decode b_C_times 13 = .ok (.istore 4, 2) := by decide +kernel
theorem d_C_times_15 : decode b_C_times 15 = .ok (.iload 4, 2) := by decide +kernel
theorem d_C_times_17 : decode b_C_times 17 = .ok (.aload_n 0, 1) := by decide +kernel
theorem d_C_times_18 : decode b_C_times 18 = .ok (.getfield 18, 3) := by decide +kernel
theorem d_C_times_21 : decode b_C_times 21 = .ok (.if_icmp .ge 25, 3) := by decide +kernel
theorem d_C_times_24 : decode b_C_times 24 = .ok (.lload_n 2, 1) := by decide +kernel
theorem d_C_times_25 : decode b_C_times 25 = .ok (.aload_n 0, 1) := by decide +kernel
theorem d_C_times_26 : decode b_C_times 26 = .ok (.getfield 27, 3) := by decide +kernel
theorem d_C_times_29 : decode b_C_times 29 = .ok (.iload_n 1, 1) := by decide +kernel
theorem d_C_times_30 : decode b_C_times 30 = .ok (.aaload, 1) := by decide +kernel
theorem d_C_times_31 : decode b_C_times 31 = .ok (.iload 4, 2) := by decide +kernel
theorem d_C_times_33 : decode b_C_times 33 = .ok (.invokestatic 122, 3) := by decide +kernel
theorem d_C_times_36 : decode b_C_times 36 = .ok (.invokestatic 126, 3) := by decide +kernel
theorem d_C_times_39 : decode b_C_times 39 = .ok (.lstore_n 2, 1) := by decide +kernel
theorem d_C_times_40 : decode b_C_times 40 = .ok (.iinc 4 1, 3) := by decide +kernel
theorem d_C_times_43 : decode b_C_times 43 = .ok (.goto (-28), 3) := by decide +kernel
theorem d_C_times_46 : decode b_C_times 46 = .ok (.lload_n 2, 1) := by decide +kernel
theorem d_C_times_47 : decode b_C_times 47 = .ok (.lreturn, 1) := by decide +kernel
theorem d_C_isPlace_0 : decode b_C_isPlace 0 = .ok (.iload_n 1, 1) := by decide +kernel
theorem d_C_isPlace_1 : decode b_C_isPlace 1 = .ok (.ifCond .lt 15, 3) := by decide +kernel
theorem d_C_isPlace_4 : decode b_C_isPlace 4 = .ok (.iload_n 1, 1) := by decide +kernel
theorem d_C_isPlace_5 : decode b_C_isPlace 5 = .ok (.aload_n 0, 1) := by decide +kernel
theorem d_C_isPlace_6 : decode b_C_isPlace 6 = .ok (.getfield 18, 3) := by decide +kernel
theorem d_C_isPlace_9 : decode b_C_isPlace 9 = .ok (.if_icmp .ge 7, 3) := by decide +kernel
theorem d_C_isPlace_12 : decode b_C_isPlace 12 = .ok (.iconst 1, 1) := by decide +kernel
theorem d_C_isPlace_13 : decode b_C_isPlace 13 = .ok (.goto 4, 3) := by decide +kernel
theorem d_C_isPlace_16 : decode b_C_isPlace 16 = .ok (.iconst 0, 1) := by decide +kernel
theorem d_C_isPlace_17 : decode b_C_isPlace 17 = .ok (.ireturn, 1) := by decide +kernel
theorem d_C_isMove_0 : decode b_C_isMove 0 = .ok (.iload_n 1, 1) := by decide +kernel
theorem d_C_isMove_1 : decode b_C_isMove 1 = .ok (.ifCond .lt 15, 3) := by decide +kernel
theorem d_C_isMove_4 : decode b_C_isMove 4 = .ok (.iload_n 1, 1) := by decide +kernel
theorem d_C_isMove_5 : decode b_C_isMove 5 = .ok (.aload_n 0, 1) := by decide +kernel
theorem d_C_isMove_6 : decode b_C_isMove 6 = .ok (.getfield 46, 3) := by decide +kernel
theorem d_C_isMove_9 : decode b_C_isMove 9 = .ok (.if_icmp .ge 7, 3) := by decide +kernel
theorem d_C_isMove_12 : decode b_C_isMove 12 = .ok (.iconst 1, 1) := by decide +kernel
theorem d_C_isMove_13 : decode b_C_isMove 13 = .ok (.goto 4, 3) := by decide +kernel
theorem d_C_isMove_16 : decode b_C_isMove 16 = .ok (.iconst 0, 1) := by decide +kernel
theorem d_C_isMove_17 : decode b_C_isMove 17 = .ok (.ireturn, 1) := by decide +kernel
theorem d_C_isState_0 : decode b_C_isState 0 = .ok (.iload_n 1, 1) := by decide +kernel
theorem d_C_isState_1 : decode b_C_isState 1 = .ok (.ifCond .lt 15, 3) := by decide +kernel
theorem d_C_isState_4 : decode b_C_isState 4 = .ok (.iload_n 1, 1) := by decide +kernel
theorem d_C_isState_5 : decode b_C_isState 5 = .ok (.aload_n 0, 1) := by decide +kernel
theorem d_C_isState_6 : decode b_C_isState 6 = .ok (.getfield 104, 3) := by decide +kernel
theorem d_C_isState_9 : decode b_C_isState 9 = .ok (.if_icmp .ge 7, 3) := by decide +kernel
theorem d_C_isState_12 : decode b_C_isState 12 = .ok (.iconst 1, 1) := by decide +kernel
theorem d_C_isState_13 : decode b_C_isState 13 = .ok (.goto 4, 3) := by decide +kernel
theorem d_C_isState_16 : decode b_C_isState 16 = .ok (.iconst 0, 1) := by decide +kernel
theorem d_C_isState_17 : decode b_C_isState 17 = .ok (.ireturn, 1) := by decide +kernel
theorem d_C_freshChain_0 : decode b_C_freshChain 0 = .ok (.aload_n 0, 1) := by decide +kernel
theorem d_C_freshChain_1 : decode b_C_freshChain 1 = .ok (.getfield 130, 3) := by decide +kernel
theorem d_C_freshChain_4 : decode b_C_freshChain 4 = .ok (.ifnonnull 23, 3) := by decide +kernel
theorem d_C_freshChain_7 : decode b_C_freshChain 7 = .ok (.aload_n 0, 1) := by decide +kernel
theorem d_C_freshChain_8 : decode b_C_freshChain 8 = .ok (.new 69, 3) := by decide +kernel
theorem d_C_freshChain_11 : decode b_C_freshChain 11 = .ok (.dup, 1) := by decide +kernel
theorem d_C_freshChain_12 : decode b_C_freshChain 12 = .ok (.aload_n 0, 1) := by decide +kernel
theorem d_C_freshChain_13 : decode b_C_freshChain 13 = .ok (.getfield 18, 3) := by decide +kernel
theorem d_C_freshChain_16 : decode b_C_freshChain 16 = .ok (.invokespecial 134, 3) := by decide +kernel
theorem d_C_freshChain_19 : decode b_C_freshChain 19 = .ok (.putfield 130, 3) := by decide +kernel
theorem d_C_freshChain_22 : decode b_C_freshChain 22 = .ok (.aload_n 0, 1) := by decide +kernel
theorem d_C_freshChain_23 : decode b_C_freshChain 23 = .ok (.iconst 1, 1) := by decide +kernel
theorem d_C_freshChain_24 : decode b_C_freshChain 24 = .ok (.putfield 60, 3) := by decide +kernel
theorem d_C_freshChain_27 : decode b_C_freshChain 27 = .ok (.aload_n 0, 1) := by decide +kernel
theorem d_C_freshChain_28 : decode b_C_freshChain 28 = .ok (.getfield 60, 3) := by decide +kernel
theorem d_C_freshChain_31 : decode b_C_freshChain 31 = .ok (.ifCond .eq 23, 3) := by decide +kernel
theorem d_C_freshChain_34 : decode b_C_freshChain 34 = .ok (.aload_n 0, 1) := by decide +kernel
theorem d_C_freshChain_35 : decode b_C_freshChain 35 = .ok (.getfield 130, 3) := by decide +kernel
theorem d_C_freshChain_38 : decode b_C_freshChain 38 = .ok (.aload_n 0, 1) := by decide +kernel
theorem d_C_freshChain_39 : decode b_C_freshChain 39 = .ok (.getfield 24, 3) := by decide +kernel
theorem d_C_freshChain_42 : decode b_C_freshChain 42 = .ok (.aload_n 0, 1) := by decide +kernel
theorem d_C_freshChain_43 : decode b_C_freshChain 43 = .ok (.getfield 46, 3) := by decide +kernel
theorem d_C_freshChain_46 : decode b_C_freshChain 46 = .ok (.invokevirtual 135, 3) := by decide +kernel
theorem d_C_freshChain_49 : decode b_C_freshChain 49 = .ok (.aload_n 0, 1) := by decide +kernel
theorem d_C_freshChain_50 : decode b_C_freshChain 50 = .ok (.iconst 0, 1) := by decide +kernel
theorem d_C_freshChain_51 : decode b_C_freshChain 51 = .ok (.putfield 60, 3) := by decide +kernel
theorem d_C_freshChain_54 : decode b_C_freshChain 54 = .ok (.aload_n 0, 1) := by decide +kernel
theorem d_C_freshChain_55 : decode b_C_freshChain 55 = .ok (.getfield 130, 3) := by decide +kernel
theorem d_C_freshChain_58 : decode b_C_freshChain 58 = .ok (.areturn, 1) := by decide +kernel
theorem d_C_countGroup_0 : decode b_C_countGroup 0 = .ok (.aload_n 0, 1) := by decide +kernel
theorem d_C_countGroup_1 : decode b_C_countGroup 1 = .ok (.getfield 42, 3) := by decide +kernel
theorem d_C_countGroup_4 : decode b_C_countGroup 4 = .ok (.invokevirtual 138, 3) := by decide +kernel
theorem d_C_countGroup_7 : decode b_C_countGroup 7 = .ok (.iconst 0, 1) := by decide +kernel
theorem d_C_countGroup_8 : decode b_C_countGroup 8 = .ok (.istore_n 2, 1) := by decide +kernel
theorem d_C_countGroup_9 : decode b_C_countGroup 9 = .ok (.iload_n 2, 1) := by decide +kernel
theorem d_C_countGroup_10 : decode b_C_countGroup 10 = .ok (.aload_n 0, 1) := by decide +kernel
theorem d_C_countGroup_11 : decode b_C_countGroup 11 = .ok (.getfield 18, 3) := by decide +kernel
theorem d_C_countGroup_14 : decode b_C_countGroup 14 = .ok (.if_icmp .ge 21, 3) := by decide +kernel
theorem d_C_countGroup_17 : decode b_C_countGroup 17 = .ok (.aload_n 0, 1) := by decide +kernel
theorem d_C_countGroup_18 : decode b_C_countGroup 18 = .ok (.getfield 42, 3) := by decide +kernel
theorem d_C_countGroup_21 : decode b_C_countGroup 21 = .ok (.aload_n 1, 1) := by decide +kernel
theorem d_C_countGroup_22 : decode b_C_countGroup 22 = .ok (.iload_n 2, 1) := by decide +kernel
theorem d_C_countGroup_23 : decode b_C_countGroup 23 = .ok (.invokevirtual 68, 3) := by decide +kernel
theorem d_C_countGroup_26 : decode b_C_countGroup 26 = .ok (.invokevirtual 141, 3) := by decide +kernel
theorem d_C_countGroup_29 : decode b_C_countGroup 29 = .ok (.iinc 2 1, 3) := by decide +kernel
theorem d_C_countGroup_32 : decode b_C_countGroup 32 = .ok (.goto (-23), 3) := by decide +kernel
theorem d_C_countGroup_35 : decode b_C_countGroup 35 = .ok (.return_, 1) := by decide +kernel
theorem d_C_leaveAll_0 : decode b_C_leaveAll 0 = .ok (.iconst 0, 1) := by decide +kernel
theorem d_C_leaveAll_1 : decode b_C_leaveAll 1 = .ok (.istore_n 1, 1) := by decide +kernel
theorem d_C_leaveAll_2 : decode b_C_leaveAll 2 = .ok (.iload_n 1, 1) := by decide +kernel
theorem d_C_leaveAll_3 : decode b_C_leaveAll 3 = .ok (.aload_n 0, 1) := by decide +kernel
theorem d_C_leaveAll_4 : decode b_C_leaveAll 4 = .ok (.arraylength, 1) := by decide +kernel
theorem d_C_leaveAll_5 : decode b_C_leaveAll 5 = .ok (.if_icmp .ge 13, 3) := by decide +kernel
theorem d_C_leaveAll_8 : decode b_C_leaveAll 8 = .ok (.aload_n 0, 1) := by decide +kernel
theorem d_C_leaveAll_9 : decode b_C_leaveAll 9 = .ok (.iload_n 1, 1) := by decide +kernel
theorem d_C_leaveAll_10 : decode b_C_leaveAll 10 = .ok (.iload_n 1, 1) := by decide +kernel
theorem d_C_leaveAll_11 : decode b_C_leaveAll 11 = .ok (.iastore, 1) := by decide +kernel
theorem d_C_leaveAll_12 : decode b_C_leaveAll 12 = .ok (.iinc 1 1, 3) := by decide +kernel
theorem d_C_leaveAll_15 : decode b_C_leaveAll 15 = .ok (.goto (-13), 3) := by decide +kernel
theorem d_C_leaveAll_18 : decode b_C_leaveAll 18 = .ok (.return_, 1) := by decide +kernel
theorem d_C_follow_0 : decode b_C_follow 0 = .ok (.iconst 0, 1) := by decide +kernel
theorem d_C_follow_1 : decode b_C_follow 1 = .ok (.istore_n 2, 1) := by decide +kernel
theorem d_C_follow_2 : decode b_C_follow 2 = .ok (.iload_n 2, 1) := by decide +kernel
theorem d_C_follow_3 : decode b_C_follow 3 = .ok (.aload_n 0, 1) := by decide +kernel
theorem d_C_follow_4 : decode b_C_follow 4 = .ok (.arraylength, 1) := by decide +kernel
theorem d_C_follow_5 : decode b_C_follow 5 = .ok (.if_icmp .ge 17, 3) := by decide +kernel
theorem d_C_follow_8 : decode b_C_follow 8 = .ok (.aload_n 0, 1) := by decide +kernel
theorem d_C_follow_9 : decode b_C_follow 9 = .ok (.iload_n 2, 1) := by decide +kernel
theorem d_C_follow_10 : decode b_C_follow 10 = .ok (.aload_n 1, 1) := by decide +kernel
theorem d_C_follow_11 : decode b_C_follow 11 = .ok (.aload_n 0, 1) := by decide +kernel
theorem d_C_follow_12 : decode b_C_follow 12 = .ok (.iload_n 2, 1) := by decide +kernel
theorem d_C_follow_13 : decode b_C_follow 13 = .ok (.iaload, 1) := by decide +kernel
theorem d_C_follow_14 : decode b_C_follow 14 = .ok (.iaload, 1) := by decide +kernel
theorem d_C_follow_15 : decode b_C_follow 15 = .ok (.iastore, 1) := by decide +kernel
theorem d_C_follow_16 : decode b_C_follow 16 = .ok (.iinc 2 1, 3) := by decide +kernel
theorem d_C_follow_19 : decode b_C_follow 19 = .ok (.goto (-17), 3) := by decide +kernel
theorem d_C_follow_22 : decode b_C_follow 22 = .ok (.return_, 1) := by decide +kernel
theorem d_C_returnTime_0 : decode b_C_returnTime 0 = .ok (.aload_n 0, 1) := by decide +kernel
theorem d_C_returnTime_1 : decode b_C_returnTime 1 = .ok (.iload_n 1, 1) := by decide +kernel
theorem d_C_returnTime_2 : decode b_C_returnTime 2 = .ok (.iaload, 1) := by decide +kernel
theorem d_C_returnTime_3 : decode b_C_returnTime 3 = .ok (.istore_n 2, 1) := by decide +kernel
theorem d_C_returnTime_4 : decode b_C_returnTime 4 = .ok (.iconst 1, 1) := by decide +kernel
theorem d_C_returnTime_5 : decode b_C_returnTime 5 = .ok (.istore_n 3, 1) := by decide +kernel
theorem d_C_returnTime_6 : decode b_C_returnTime 6 = .ok (.iload_n 2, 1) := by decide +kernel
theorem d_C_returnTime_7 : decode b_C_returnTime 7 = .ok (.iload_n 1, 1) := by decide +kernel
theorem d_C_returnTime_8 : decode b_C_returnTime 8 = .ok (.if_icmp .eq 19, 3) := by decide +kernel
theorem d_C_returnTime_11 : decode b_C_returnTime 11 = .ok (.iload_n 3, 1) := by decide +kernel
theorem d_C_returnTime_12 : decode b_C_returnTime 12 = .ok (.aload_n 0, 1) := by decide +kernel
theorem d_C_returnTime_13 : decode b_C_returnTime 13 = .ok (.arraylength, 1) := by decide +kernel
theorem d_C_returnTime_14 : decode b_C_returnTime 14 = .ok (.if_icmp .ge 13, 3) := by decide +kernel
theorem d_C_returnTime_17 : decode b_C_returnTime 17 = .ok (.aload_n 0, 1) := by decide +kernel
theorem d_C_returnTime_18 : decode b_C_returnTime 18 = .ok (.iload_n 2, 1) := by decide +kernel
theorem d_C_returnTime_19 : decode b_C_returnTime 19 = .ok (.iaload, 1) := by decide +kernel
theorem d_C_returnTime_20 : decode b_C_returnTime 20 = .ok (.istore_n 2, 1) := by decide +kernel
theorem d_C_returnTime_21 : decode b_C_returnTime 21 = .ok (.iinc 3 1, 3) := by decide +kernel
theorem d_C_returnTime_24 : decode b_C_returnTime 24 = .ok (.goto (-18), 3) := by decide +kernel
theorem d_C_returnTime_27 : decode b_C_returnTime 27 = .ok (.iload_n 3, 1) := by decide +kernel
theorem d_C_returnTime_28 : decode b_C_returnTime 28 = .ok (.ireturn, 1) := by decide +kernel
theorem d_C_leastMultiple_0 : decode b_C_leastMultiple 0 = .ok (.iload_n 2, 1) := by decide +kernel
theorem d_C_leastMultiple_1 : decode b_C_leastMultiple 1 = .ok (.iconst 1, 1) := by decide +kernel
theorem d_C_leastMultiple_2 : decode b_C_leastMultiple 2 = .ok (.if_icmp .ge 5, 3) := by decide +kernel
theorem d_C_leastMultiple_5 : decode b_C_leastMultiple 5 = .ok (.lload_n 0, 1) := by decide +kernel
theorem d_C_leastMultiple_6 : decode b_C_leastMultiple 6 = .ok (.lreturn, 1) := by decide +kernel
theorem d_C_leastMultiple_7 : decode b_C_leastMultiple 7 = .ok (.iconst 1, 1) := by decide +kernel
theorem d_C_leastMultiple_8 : decode b_C_leastMultiple 8 = .ok (.istore_n 3, 1) := by decide +kernel
theorem d_C_leastMultiple_9 : decode b_C_leastMultiple 9 = .ok (.iload_n 3, 1) := by decide +kernel
theorem d_C_leastMultiple_10 : decode b_C_leastMultiple 10 = .ok (.iload_n 2, 1) := by decide +kernel
theorem d_C_leastMultiple_11 : decode b_C_leastMultiple 11 = .ok (.if_icmp .ge 26, 3) := by decide +kernel
theorem d_C_leastMultiple_14 : decode b_C_leastMultiple 14 = .ok (.lload_n 0, 1) := by decide +kernel
theorem d_C_leastMultiple_15 : decode b_C_leastMultiple 15 = .ok (.iload_n 3, 1) := by decide +kernel
theorem d_C_leastMultiple_16 : decode b_C_leastMultiple 16 = .ok (.i2l, 1) := by decide +kernel
theorem d_C_leastMultiple_17 : decode b_C_leastMultiple 17 = .ok (.lmul, 1) := by decide +kernel
theorem d_C_leastMultiple_18 : decode b_C_leastMultiple 18 = .ok (.iload_n 2, 1) := by decide +kernel
theorem d_C_leastMultiple_19 : decode b_C_leastMultiple 19 = .ok (.i2l, 1) := by decide +kernel
theorem d_C_leastMultiple_20 : decode b_C_leastMultiple 20 = .ok (.lrem, 1) := by decide +kernel
theorem d_C_leastMultiple_21 : decode b_C_leastMultiple 21 = .ok (.lconst 0, 1) := by decide +kernel
theorem d_C_leastMultiple_22 : decode b_C_leastMultiple 22 = .ok (.lcmp, 1) := by decide +kernel
theorem d_C_leastMultiple_23 : decode b_C_leastMultiple 23 = .ok (.ifCond .ne 8, 3) := by decide +kernel
theorem d_C_leastMultiple_26 : decode b_C_leastMultiple 26 = .ok (.lload_n 0, 1) := by decide +kernel
theorem d_C_leastMultiple_27 : decode b_C_leastMultiple 27 = .ok (.iload_n 3, 1) := by decide +kernel
theorem d_C_leastMultiple_28 : decode b_C_leastMultiple 28 = .ok (.i2l, 1) := by decide +kernel
theorem d_C_leastMultiple_29 : decode b_C_leastMultiple 29 = .ok (.lmul, 1) := by decide +kernel
theorem d_C_leastMultiple_30 : decode b_C_leastMultiple 30 = .ok (.lreturn, 1) := by decide +kernel
theorem d_C_leastMultiple_31 : decode b_C_leastMultiple 31 = .ok (.iinc 3 1, 3) := by decide +kernel
theorem d_C_leastMultiple_34 : decode b_C_leastMultiple 34 = .ok (.goto (-25), 3) := by decide +kernel
theorem d_C_leastMultiple_37 : decode b_C_leastMultiple 37 = .ok (.lload_n 0, 1) := by decide +kernel
theorem d_C_leastMultiple_38 : decode b_C_leastMultiple 38 = .ok (.iload_n 2, 1) := by decide +kernel
theorem d_C_leastMultiple_39 : decode b_C_leastMultiple 39 = .ok (.i2l, 1) := by decide +kernel
theorem d_C_leastMultiple_40 : decode b_C_leastMultiple 40 = .ok (.lmul, 1) := by decide +kernel
theorem d_C_leastMultiple_41 : decode b_C_leastMultiple 41 = .ok (.lreturn, 1) := by decide +kernel
end
section
theorem d_H_init_0 : decode b_H_init 0 = .ok (.aload_n 0, 1) := by decide +kernel
theorem d_H_init_1 : decode b_H_init 1 = .ok (.invokespecial 1, 3) := by decide +kernel
theorem d_H_init_4 : decode b_H_init 4 = .ok (.aload_n 0, 1) := by decide +kernel
theorem d_H_init_5 : decode b_H_init 5 = .ok (.iload_n 1, 1) := by decide +kernel
theorem d_H_init_6 : decode b_H_init 6 = .ok (.putfield 7, 3) := by decide +kernel
theorem d_H_init_9 : decode b_H_init 9 = .ok (.aload_n 0, 1) := by decide +kernel
theorem d_H_init_10 : decode b_H_init 10 = .ok (.iload_n 1, 1) := by decide +kernel
theorem d_H_init_11 : decode b_H_init 11 = .ok (.anewarray 13, 3) := by decide +kernel
theorem d_H_init_14 : decode b_H_init 14 = .ok (.putfield 15, 3) := by decide +kernel
theorem d_H_init_17 : decode b_H_init 17 = .ok (.aload_n 0, 1) := by decide +kernel
theorem d_H_init_18 : decode b_H_init 18 = .ok (.iload_n 1, 1) := by decide +kernel
theorem d_H_init_19 : decode b_H_init 19 = .ok (.newarray .int, 2) := by decide +kernel
theorem d_H_init_21 : decode b_H_init 21 = .ok (.putfield 19, 3) := by decide +kernel
theorem d_H_init_24 : decode b_H_init 24 = .ok (.iconst 0, 1) := by decide +kernel
theorem d_H_init_25 : decode b_H_init 25 = .ok (.istore_n 2, 1) := by decide +kernel
theorem d_H_init_26 : decode b_H_init 26 = .ok (.iload_n 2, 1) := by decide +kernel
theorem d_H_init_27 : decode b_H_init 27 = .ok (.iload_n 1, 1) := by decide +kernel
theorem d_H_init_28 : decode b_H_init 28 = .ok (.if_icmp .ge 24, 3) := by decide +kernel
theorem d_H_init_31 : decode b_H_init 31 = .ok (.aload_n 0, 1) := by decide +kernel
theorem d_H_init_32 : decode b_H_init 32 = .ok (.getfield 15, 3) := by decide +kernel
theorem d_H_init_35 : decode b_H_init 35 = .ok (.iload_n 2, 1) := by decide +kernel
theorem d_H_init_36 : decode b_H_init 36 = .ok (.new 13, 3) := by decide +kernel
theorem d_H_init_39 : decode b_H_init 39 = .ok (.dup, 1) := by decide +kernel
theorem d_H_init_40 : decode b_H_init 40 = .ok (.iload_n 2, 1) := by decide +kernel
theorem d_H_init_41 : decode b_H_init 41 = .ok (.iload_n 1, 1) := by decide +kernel
theorem d_H_init_42 : decode b_H_init 42 = .ok (.invokespecial 23, 3) := by decide +kernel
theorem d_H_init_45 : decode b_H_init 45 = .ok (.aastore, 1) := by decide +kernel
theorem d_H_init_46 : decode b_H_init 46 = .ok (.iinc 2 1, 3) := by decide +kernel
theorem d_H_init_49 : decode b_H_init 49 = .ok (.goto (-23), 3) := by decide +kernel
theorem d_H_init_52 : decode b_H_init 52 = .ok (.return_, 1) := by decide +kernel
theorem d_H_build_0 : decode b_H_build 0 = .ok (.iconst 0, 1) := by decide +kernel
theorem d_H_build_1 : decode b_H_build 1 = .ok (.istore_n 3, 1) := by decide +kernel
theorem d_H_build_2 : decode b_H_build 2 = .ok (.iload_n 3, 1) := by decide +kernel
theorem d_H_build_3 : decode b_H_build 3 = .ok (.aload_n 0, 1) := by decide +kernel
theorem d_H_build_4 : decode b_H_build 4 = .ok (.getfield 7, 3) := by decide +kernel
theorem d_H_build_7 : decode b_H_build 7 = .ok (.if_icmp .ge 18, 3) := by decide +kernel
theorem d_H_build_10 : decode b_H_build 10 = .ok (.aload_n 0, 1) := by decide +kernel
theorem d_H_build_11 : decode b_H_build 11 = .ok (.getfield 15, 3) := by decide +kernel
theorem d_H_build_14 : decode b_H_build 14 = .ok (.iload_n 3, 1) := by decide +kernel
theorem d_H_build_15 : decode b_H_build 15 = .ok (.aaload, 1) := by decide +kernel
theorem d_H_build_16 : decode b_H_build 16 = .ok (.invokevirtual 26, 3) := by decide +kernel
theorem d_H_build_19 : decode b_H_build 19 = .ok (.iinc 3 1, 3) := by decide +kernel
theorem d_H_build_22 : decode b_H_build 22 = .ok (.goto (-20), 3) := by decide +kernel
theorem d_H_build_25 : decode b_H_build 25 = .ok (.iconst 0, 1) := by decide +kernel
theorem d_H_build_26 : decode b_H_build 26 = .ok (.istore_n 3, 1) := by decide +kernel
theorem d_H_build_27 : decode b_H_build 27 = .ok (.iload_n 3, 1) := by decide +kernel
theorem d_H_build_28 : decode b_H_build 28 = .ok (.iload_n 2, 1) := by decide +kernel
theorem d_H_build_29 : decode b_H_build 29 = .ok (.if_icmp .ge 40, 3) := by decide +kernel
theorem d_H_build_32 : decode b_H_build 32 = .ok (.aload_n 0, 1) := by decide +kernel
theorem d_H_build_33 : decode b_H_build 33 = .ok (.aload_n 1, 1) := by decide +kernel
theorem d_H_build_34 : decode b_H_build 34 = .ok (.iload_n 3, 1) := by decide +kernel
theorem d_H_build_35 : decode b_H_build 35 = .ok (.aaload, 1) := by decide +kernel
theorem d_H_build_36 : decode b_H_build 36 = .ok (.invokevirtual 29, 3) := by decide +kernel
theorem d_H_build_39 : decode b_H_build 39 = .ok (.aload_n 0, 1) := by decide +kernel
theorem d_H_build_40 : decode b_H_build 40 = .ok (.getfield 7, 3) := by decide +kernel
theorem d_H_build_43 : decode b_H_build 43 = .ok (.if_icmp .ge 20, 3) := by decide +kernel
theorem d_H_build_46 : decode b_H_build 46 = .ok (.aload_n 0, 1) := by decide +kernel
theorem d_H_build_47 : decode b_H_build 47 = .ok (.getfield 15, 3) := by decide +kernel
theorem d_H_build_50 : decode b_H_build 50 = .ok (.iconst 0, 1) := by decide +kernel
theorem d_H_build_51 : decode b_H_build 51 = .ok (.aaload, 1) := by decide +kernel
theorem d_H_build_52 : decode b_H_build 52 = .ok (.aload_n 0, 1) := by decide +kernel
theorem d_H_build_53 : decode b_H_build 53 = .ok (.getfield 19, 3) := by decide +kernel
theorem d_H_build_56 : decode b_H_build 56 = .ok (.invokevirtual 33, 3) := by decide +kernel
theorem d_H_build_59 : decode b_H_build 59 = .ok (.aload_n 0, 1) := by decide +kernel
theorem d_H_build_60 : decode b_H_build 60 = .ok (.invokevirtual 37, 3) := by decide +kernel
theorem d_H_build_63 : decode b_H_build 63 = .ok (.iinc 3 1, 3) := by decide +kernel
theorem d_H_build_66 : decode b_H_build 66 = .ok (.goto (-39), 3) := by decide +kernel
theorem d_H_build_69 : decode b_H_build 69 = .ok (.return_, 1) := by decide +kernel
theorem d_H_spreadSize_0 : decode b_H_spreadSize 0 = .ok (.aload_n 0, 1) := by decide +kernel
theorem d_H_spreadSize_1 : decode b_H_spreadSize 1 = .ok (.getfield 15, 3) := by decide +kernel
theorem d_H_spreadSize_4 : decode b_H_spreadSize 4 = .ok (.iload_n 1, 1) := by decide +kernel
theorem d_H_spreadSize_5 : decode b_H_spreadSize 5 = .ok (.aaload, 1) := by decide +kernel
theorem d_H_spreadSize_6 : decode b_H_spreadSize 6 = .ok (.invokevirtual 40, 3) := by decide +kernel
theorem d_H_spreadSize_9 : decode b_H_spreadSize 9 = .ok (.ireturn, 1) := by decide +kernel
theorem d_H_failingPlace_0 : decode b_H_failingPlace 0 = .ok (.aload_n 1, 1) := by decide +kernel
theorem d_H_failingPlace_1 : decode b_H_failingPlace 1 = .ok (.iconst 0, 1) := by decide +kernel
theorem d_H_failingPlace_2 : decode b_H_failingPlace 2 = .ok (.aload_n 0, 1) := by decide +kernel
theorem d_H_failingPlace_3 : decode b_H_failingPlace 3 = .ok (.getfield 19, 3) := by decide +kernel
theorem d_H_failingPlace_6 : decode b_H_failingPlace 6 = .ok (.iconst 0, 1) := by decide +kernel
theorem d_H_failingPlace_7 : decode b_H_failingPlace 7 = .ok (.aload_n 0, 1) := by decide +kernel
theorem d_H_failingPlace_8 : decode b_H_failingPlace 8 = .ok (.getfield 7, 3) := by decide +kernel
theorem d_H_failingPlace_11 : decode b_H_failingPlace 11 = .ok (.invokestatic 44, 3) := by decide +kernel
theorem d_H_failingPlace_14 : decode b_H_failingPlace 14 = .ok (.aload_n 0, 1) := by decide +kernel
theorem d_H_failingPlace_15 : decode b_H_failingPlace 15 = .ok (.iconst 0, 1) := by decide +kernel
theorem d_H_failingPlace_16 : decode b_H_failingPlace 16 = .ok (.invokevirtual 50, 3) := by decide +kernel
theorem d_H_failingPlace_19 : decode b_H_failingPlace 19 = .ok (.ireturn, 1) := by decide +kernel
theorem d_H_siftWork_0 : decode b_H_siftWork 0 = .ok (.iload_n 1, 1) := by decide +kernel
theorem d_H_siftWork_1 : decode b_H_siftWork 1 = .ok (.istore_n 2, 1) := by decide +kernel
theorem d_H_siftWork_2 : decode b_H_siftWork 2 = .ok (.iload_n 2, 1) := by decide +kernel
theorem d_H_siftWork_3 : decode b_H_siftWork 3 = .ok (.aload_n 0, 1) := by decide +kernel
theorem d_H_siftWork_4 : decode b_H_siftWork 4 = .ok (.getfield 7, 3) := by decide +kernel
theorem d_H_siftWork_7 : decode b_H_siftWork 7 = .ok (.if_icmp .ge 37, 3) := by decide +kernel
theorem d_H_siftWork_10 : decode b_H_siftWork 10 = .ok (.aload_n 0, 1) := by decide +kernel
theorem d_H_siftWork_11 : decode b_H_siftWork 11 = .ok (.getfield 19, 3) := by decide +kernel
theorem d_H_siftWork_14 : decode b_H_siftWork 14 = .ok (.iload_n 2, 1) := by decide +kernel
theorem d_H_siftWork_15 : decode b_H_siftWork 15 = .ok (.iaload, 1) := by decide +kernel
theorem d_H_siftWork_16 : decode b_H_siftWork 16 = .ok (.iload_n 2, 1) := by decide +kernel
theorem d_H_siftWork_17 : decode b_H_siftWork 17 = .ok (.if_icmp .eq 21, 3) := by decide +kernel
theorem d_H_siftWork_20 : decode b_H_siftWork 20 = .ok (.aload_n 0, 1) := by decide +kernel
theorem d_H_siftWork_21 : decode b_H_siftWork 21 = .ok (.getfield 15, 3) := by decide +kernel
theorem d_H_siftWork_24 : decode b_H_siftWork 24 = .ok (.iload_n 2, 1) := by decide +kernel
theorem d_H_siftWork_25 : decode b_H_siftWork 25 = .ok (.aaload, 1) := by decide +kernel
theorem d_H_siftWork_26 : decode b_H_siftWork 26 = .ok (.aload_n 0, 1) := by decide +kernel
theorem d_H_siftWork_27 : decode b_H_siftWork 27 = .ok (.getfield 19, 3) := by decide +kernel
theorem d_H_siftWork_30 : decode b_H_siftWork 30 = .ok (.invokevirtual 54, 3) := by decide +kernel
theorem d_H_siftWork_33 : decode b_H_siftWork 33 = .ok (.ifCond .ne 5, 3) := by decide +kernel
theorem d_H_siftWork_36 : decode b_H_siftWork 36 = .ok (.iload_n 2, 1) := by decide +kernel
theorem d_H_siftWork_37 : decode b_H_siftWork 37 = .ok (.ireturn, 1) := by decide +kernel
theorem d_H_siftWork_38 : decode b_H_siftWork 38 = .ok (.iinc 2 1, 3) := by decide +kernel
theorem d_H_siftWork_41 : decode b_H_siftWork 41 = .ok (.goto (-39), 3) := by decide +kernel
theorem d_H_siftWork_44 : decode b_H_siftWork 44 = .ok (.aload_n 0, 1) := by decide +kernel
theorem d_H_siftWork_45 : decode b_H_siftWork 45 = .ok (.getfield 7, 3) := by decide +kernel
theorem d_H_siftWork_48 : decode b_H_siftWork 48 = .ok (.ireturn, 1) := by decide +kernel
theorem d_H_complete_0 : decode b_H_complete 0 = .ok (.iconst 0, 1) := by decide +kernel
theorem d_H_complete_1 : decode b_H_complete 1 = .ok (.istore_n 1, 1) := by decide +kernel
theorem d_H_complete_2 : decode b_H_complete 2 = .ok (.iconst 0, 1) := by decide +kernel
theorem d_H_complete_3 : decode b_H_complete 3 = .ok (.istore_n 2, 1) := by decide +kernel
theorem d_H_complete_4 : decode b_H_complete 4 = .ok (.iload_n 1, 1) := by decide +kernel
theorem d_H_complete_5 : decode b_H_complete 5 = .ok (.ifCond .lt 21, 3) := by decide +kernel
theorem d_H_complete_8 : decode b_H_complete 8 = .ok (.iload_n 2, 1) := by decide +kernel
theorem d_H_complete_9 : decode b_H_complete 9 = .ok (.ldc 58, 2) := by decide +kernel
theorem d_H_complete_11 : decode b_H_complete 11 = .ok (.if_icmp .ge 15, 3) := by decide +kernel
theorem d_H_complete_14 : decode b_H_complete 14 = .ok (.aload_n 0, 1) := by decide +kernel
theorem d_H_complete_15 : decode b_H_complete 15 = .ok (.iload_n 1, 1) := by decide +kernel
theorem d_H_complete_16 : decode b_H_complete 16 = .ok (.invokevirtual 59, 3) := by decide +kernel
theorem d_H_complete_19 : decode b_H_complete 19 = .ok (.istore_n 1, 1) := by decide +kernel
theorem d_H_complete_20 : decode b_H_complete 20 = .ok (.iinc 2 1, 3) := by decide +kernel
theorem d_H_complete_23 : decode b_H_complete 23 = .ok (.goto (-19), 3) := by decide +kernel
theorem d_H_complete_26 : decode b_H_complete 26 = .ok (.return_, 1) := by decide +kernel
theorem d_H_advance_0 : decode b_H_advance 0 = .ok (.aload_n 0, 1) := by decide +kernel
theorem d_H_advance_1 : decode b_H_advance 1 = .ok (.getfield 15, 3) := by decide +kernel
theorem d_H_advance_4 : decode b_H_advance 4 = .ok (.iload_n 1, 1) := by decide +kernel
theorem d_H_advance_5 : decode b_H_advance 5 = .ok (.aaload, 1) := by decide +kernel
theorem d_H_advance_6 : decode b_H_advance 6 = .ok (.astore_n 2, 1) := by decide +kernel
theorem d_H_advance_7 : decode b_H_advance 7 = .ok (.aload_n 2, 1) := by decide +kernel
theorem d_H_advance_8 : decode b_H_advance 8 = .ok (.invokevirtual 62, 3) := by decide +kernel
theorem d_H_advance_11 : decode b_H_advance 11 = .ok (.istore_n 3, 1) := by decide +kernel
theorem d_H_advance_12 : decode b_H_advance 12 = .ok (.iload_n 3, 1) := by decide +kernel
theorem d_H_advance_13 : decode b_H_advance 13 = .ok (.ifCond .ge 7, 3) := by decide +kernel
theorem d_H_advance_16 : decode b_H_advance 16 = .ok (.iload_n 1, 1) := by decide +kernel
theorem d_H_advance_17 : decode b_H_advance 17 = .ok (.iconst 1, 1) := by decide +kernel
theorem d_H_advance_18 : decode b_H_advance 18 = .ok (.isub, 1) := by decide +kernel
theorem d_H_advance_19 : decode b_H_advance 19 = .ok (.ireturn, 1) := by decide +kernel
theorem d_H_advance_20 : decode b_H_advance 20 = .ok (.aload_n 2, 1) := by decide +kernel
theorem d_H_advance_21 : decode b_H_advance 21 = .ok (.iload_n 3, 1) := by decide +kernel
theorem d_H_advance_22 : decode b_H_advance 22 = .ok (.aload_n 0, 1) := by decide +kernel
theorem d_H_advance_23 : decode b_H_advance 23 = .ok (.getfield 19, 3) := by decide +kernel
theorem d_H_advance_26 : decode b_H_advance 26 = .ok (.invokevirtual 65, 3) := by decide +kernel
theorem d_H_advance_29 : decode b_H_advance 29 = .ok (.ifCond .eq 5, 3) := by decide +kernel
theorem d_H_advance_32 : decode b_H_advance 32 = .ok (.iload_n 1, 1) := by decide +kernel
theorem d_H_advance_33 : decode b_H_advance 33 = .ok (.ireturn, 1) := by decide +kernel
theorem d_H_advance_34 : decode b_H_advance 34 = .ok (.iload_n 1, 1) := by decide +kernel
theorem d_H_advance_35 : decode b_H_advance 35 = .ok (.iconst 1, 1) := by decide +kernel
theorem d_H_advance_36 : decode b_H_advance 36 = .ok (.iadd, 1) := by decide +kernel
theorem d_H_advance_37 : decode b_H_advance 37 = .ok (.istore 4, 2) := by decide +kernel
theorem d_H_advance_39 : decode b_H_advance 39 = .ok (.iload 4, 2) := by decide +kernel
theorem d_H_advance_41 : decode b_H_advance 41 = .ok (.aload_n 0, 1) := by decide +kernel
theorem d_H_advance_42 : decode b_H_advance 42 = .ok (.getfield 7, 3) := by decide +kernel
theorem d_H_advance_45 : decode b_H_advance 45 = .ok (.if_icmp .ge 16, 3) := by decide +kernel
theorem d_H_advance_48 : decode b_H_advance 48 = .ok (.aload_n 0, 1) := by decide +kernel
theorem d_H_advance_49 : decode b_H_advance 49 = .ok (.iload 4, 2) := by decide +kernel
theorem d_H_advance_51 : decode b_H_advance 51 = .ok (.invokevirtual 50, 3) := by decide +kernel
theorem d_H_advance_54 : decode b_H_advance 54 = .ok (.aload_n 0, 1) := by decide +kernel
theorem d_H_advance_55 : decode b_H_advance 55 = .ok (.getfield 7, 3) := by decide +kernel
theorem d_H_advance_58 : decode b_H_advance 58 = .ok (.if_icmp .lt 5, 3) := by decide +kernel
theorem d_H_advance_61 : decode b_H_advance 61 = .ok (.iload_n 1, 1) := by decide +kernel
theorem d_H_advance_62 : decode b_H_advance 62 = .ok (.ireturn, 1) := by decide +kernel
theorem d_H_advance_63 : decode b_H_advance 63 = .ok (.aload_n 0, 1) := by decide +kernel
theorem d_H_advance_64 : decode b_H_advance 64 = .ok (.getfield 15, 3) := by decide +kernel
theorem d_H_advance_67 : decode b_H_advance 67 = .ok (.iload 4, 2) := by decide +kernel
theorem d_H_advance_69 : decode b_H_advance 69 = .ok (.aaload, 1) := by decide +kernel
theorem d_H_advance_70 : decode b_H_advance 70 = .ok (.aload_n 0, 1) := by decide +kernel
theorem d_H_advance_71 : decode b_H_advance 71 = .ok (.getfield 19, 3) := by decide +kernel
theorem d_H_advance_74 : decode b_H_advance 74 = .ok (.invokevirtual 33, 3) := by decide +kernel
theorem d_H_advance_77 : decode b_H_advance 77 = .ok (.iload 4, 2) := by decide +kernel
theorem d_H_advance_79 : decode b_H_advance 79 = .ok (.ireturn, 1) := by decide +kernel
theorem d_D_init_0 : decode b_D_init 0 = .ok (.aload_n 0, 1) := by decide +kernel
theorem d_D_init_1 : decode b_D_init 1 = .ok (.invokespecial 1, 3) := by decide +kernel
theorem d_D_init_4 : decode b_D_init 4 = .ok (.aload_n 0, 1) := by decide +kernel
theorem d_D_init_5 : decode b_D_init 5 = .ok (.bipush 24, 2) := by decide +kernel
theorem d_D_init_7 : decode b_D_init 7 = .ok (.newarray .int, 2) := by decide +kernel
theorem d_D_init_9 : decode b_D_init 9 = .ok (.putfield 9, 3) := by decide +kernel
theorem d_D_init_12 : decode b_D_init 12 = .ok (.return_, 1) := by decide +kernel
theorem d_D_setOne_0 : decode b_D_setOne 0 = .ok (.aload_n 0, 1) := by decide +kernel
theorem d_D_setOne_1 : decode b_D_setOne 1 = .ok (.getfield 9, 3) := by decide +kernel
theorem d_D_setOne_4 : decode b_D_setOne 4 = .ok (.iconst 0, 1) := by decide +kernel
theorem d_D_setOne_5 : decode b_D_setOne 5 = .ok (.invokestatic 13, 3) := by decide +kernel
theorem d_D_setOne_8 : decode b_D_setOne 8 = .ok (.aload_n 0, 1) := by decide +kernel
theorem d_D_setOne_9 : decode b_D_setOne 9 = .ok (.getfield 9, 3) := by decide +kernel
theorem d_D_setOne_12 : decode b_D_setOne 12 = .ok (.iconst 0, 1) := by decide +kernel
theorem d_D_setOne_13 : decode b_D_setOne 13 = .ok (.iconst 1, 1) := by decide +kernel
theorem d_D_setOne_14 : decode b_D_setOne 14 = .ok (.iastore, 1) := by decide +kernel
theorem d_D_setOne_15 : decode b_D_setOne 15 = .ok (.return_, 1) := by decide +kernel
theorem d_D_multiply_0 : decode b_D_multiply 0 = .ok (.iconst 0, 1) := by decide +kernel
theorem d_D_multiply_1 : decode b_D_multiply 1 = .ok (.istore_n 2, 1) := by decide +kernel
theorem d_D_multiply_2 : decode b_D_multiply 2 = .ok (.iconst 0, 1) := by decide +kernel
theorem d_D_multiply_3 : decode b_D_multiply 3 = .ok (.istore_n 3, 1) := by decide +kernel
theorem d_D_multiply_4 : decode b_D_multiply 4 = .ok (.iload_n 3, 1) := by decide +kernel
theorem d_D_multiply_5 : decode b_D_multiply 5 = .ok (.aload_n 0, 1) := by decide +kernel
theorem d_D_multiply_6 : decode b_D_multiply 6 = .ok (.getfield 9, 3) := by decide +kernel
theorem d_D_multiply_9 : decode b_D_multiply 9 = .ok (.arraylength, 1) := by decide +kernel
theorem d_D_multiply_10 : decode b_D_multiply 10 = .ok (.if_icmp .ge 38, 3) := by decide +kernel
theorem d_D_multiply_13 : decode b_D_multiply 13 = .ok (.aload_n 0, 1) := by decide +kernel
theorem d_D_multiply_14 : decode b_D_multiply 14 = .ok (.getfield 9, 3) := by decide +kernel
theorem d_D_multiply_17 : decode b_D_multiply 17 = .ok (.iload_n 3, 1) := by decide +kernel
theorem d_D_multiply_18 : decode b_D_multiply 18 = .ok (.iaload, 1) := by decide +kernel
theorem d_D_multiply_19 : decode b_D_multiply 19 = .ok (.iload_n 1, 1) := by decide +kernel
theorem d_D_multiply_20 : decode b_D_multiply 20 = .ok (.imul, 1) := by decide +kernel
theorem d_D_multiply_21 : decode b_D_multiply 21 = .ok (.iload_n 2, 1) := by decide +kernel
theorem d_D_multiply_22 : decode b_D_multiply 22 = .ok (.iadd, 1) := by decide +kernel
theorem d_D_multiply_23 : decode b_D_multiply 23 = .ok (.istore 4, 2) := by decide +kernel
theorem d_D_multiply_25 : decode b_D_multiply 25 = .ok (.aload_n 0, 1) := by decide +kernel
theorem d_D_multiply_26 : decode b_D_multiply 26 = .ok (.getfield 9, 3) := by decide +kernel
theorem d_D_multiply_29 : decode b_D_multiply 29 = .ok (.iload_n 3, 1) := by decide +kernel
theorem d_D_multiply_30 : decode b_D_multiply 30 = .ok (.iload 4, 2) := by decide +kernel
theorem d_D_multiply_32 : decode b_D_multiply 32 = .ok (.bipush 10, 2) := by decide +kernel
theorem d_D_multiply_34 : decode b_D_multiply 34 = .ok (.irem, 1) := by decide +kernel
theorem d_D_multiply_35 : decode b_D_multiply 35 = .ok (.iastore, 1) := by decide +kernel
theorem d_D_multiply_36 : decode b_D_multiply 36 = .ok (.iload 4, 2) := by decide +kernel
theorem d_D_multiply_38 : decode b_D_multiply 38 = .ok (.bipush 10, 2) := by decide +kernel
theorem d_D_multiply_40 : decode b_D_multiply 40 = .ok (.idiv, 1) := by decide +kernel
theorem d_D_multiply_41 : decode b_D_multiply 41 = .ok (.istore_n 2, 1) := by decide +kernel
theorem d_D_multiply_42 : decode b_D_multiply 42 = .ok (.iinc 3 1, 3) := by decide +kernel
theorem d_D_multiply_45 : decode b_D_multiply 45 = .ok (.goto (-41), 3) := by decide +kernel
theorem d_D_multiply_48 : decode b_D_multiply 48 = .ok (.return_, 1) := by decide +kernel
theorem d_D_divide_0 : decode b_D_divide 0 = .ok (.iload_n 1, 1) := by decide +kernel
theorem d_D_divide_1 : decode b_D_divide 1 = .ok (.iconst 1, 1) := by decide +kernel
theorem d_D_divide_2 : decode b_D_divide 2 = .ok (.if_icmp .ge 4, 3) := by decide +kernel
theorem d_D_divide_5 : decode b_D_divide 5 = .ok (.return_, 1) := by decide +kernel
theorem d_D_divide_6 : decode b_D_divide 6 = .ok (.iconst 0, 1) := by decide +kernel
theorem d_D_divide_7 : decode b_D_divide 7 = .ok (.istore_n 2, 1) := by decide +kernel
theorem d_D_divide_8 : decode b_D_divide 8 = .ok (.aload_n 0, 1) := by decide +kernel
theorem d_D_divide_9 : decode b_D_divide 9 = .ok (.getfield 9, 3) := by decide +kernel
theorem d_D_divide_12 : decode b_D_divide 12 = .ok (.arraylength, 1) := by decide +kernel
theorem d_D_divide_13 : decode b_D_divide 13 = .ok (.iconst 1, 1) := by decide +kernel
theorem d_D_divide_14 : decode b_D_divide 14 = .ok (.isub, 1) := by decide +kernel
theorem d_D_divide_15 : decode b_D_divide 15 = .ok (.istore_n 3, 1) := by decide +kernel
theorem d_D_divide_16 : decode b_D_divide 16 = .ok (.iload_n 3, 1) := by decide +kernel
theorem d_D_divide_17 : decode b_D_divide 17 = .ok (.ifCond .lt 37, 3) := by decide +kernel
theorem d_D_divide_20 : decode b_D_divide 20 = .ok (.iload_n 2, 1) := by decide +kernel
theorem d_D_divide_21 : decode b_D_divide 21 = .ok (.bipush 10, 2) := by decide +kernel
theorem d_D_divide_23 : decode b_D_divide 23 = .ok (.imul, 1) := by decide +kernel
theorem d_D_divide_24 : decode b_D_divide 24 = .ok (.aload_n 0, 1) := by decide +kernel
theorem d_D_divide_25 : decode b_D_divide 25 = .ok (.getfield 9, 3) := by decide +kernel
theorem d_D_divide_28 : decode b_D_divide 28 = .ok (.iload_n 3, 1) := by decide +kernel
theorem d_D_divide_29 : decode b_D_divide 29 = .ok (.iaload, 1) := by decide +kernel
theorem d_D_divide_30 : decode b_D_divide 30 = .ok (.iadd, 1) := by decide +kernel
theorem d_D_divide_31 : decode b_D_divide 31 = .ok (.istore 4, 2) := by decide +kernel
theorem d_D_divide_33 : decode b_D_divide 33 = .ok (.aload_n 0, 1) := by decide +kernel
theorem d_D_divide_34 : decode b_D_divide 34 = .ok (.getfield 9, 3) := by decide +kernel
theorem d_D_divide_37 : decode b_D_divide 37 = .ok (.iload_n 3, 1) := by decide +kernel
theorem d_D_divide_38 : decode b_D_divide 38 = .ok (.iload 4, 2) := by decide +kernel
theorem d_D_divide_40 : decode b_D_divide 40 = .ok (.iload_n 1, 1) := by decide +kernel
theorem d_D_divide_41 : decode b_D_divide 41 = .ok (.idiv, 1) := by decide +kernel
theorem d_D_divide_42 : decode b_D_divide 42 = .ok (.iastore, 1) := by decide +kernel
theorem d_D_divide_43 : decode b_D_divide 43 = .ok (.iload 4, 2) := by decide +kernel
theorem d_D_divide_45 : decode b_D_divide 45 = .ok (.iload_n 1, 1) := by decide +kernel
theorem d_D_divide_46 : decode b_D_divide 46 = .ok (.irem, 1) := by decide +kernel
theorem d_D_divide_47 : decode b_D_divide 47 = .ok (.istore_n 2, 1) := by decide +kernel
theorem d_D_divide_48 : decode b_D_divide 48 = .ok (.iinc 3 (-1), 3) := by decide +kernel
theorem d_D_divide_51 : decode b_D_divide 51 = .ok (.goto (-35), 3) := by decide +kernel
theorem d_D_divide_54 : decode b_D_divide 54 = .ok (.return_, 1) := by decide +kernel
theorem d_D_digit_0 : decode b_D_digit 0 = .ok (.iload_n 1, 1) := by decide +kernel
theorem d_D_digit_1 : decode b_D_digit 1 = .ok (.ifCond .lt 20, 3) := by decide +kernel
theorem d_D_digit_4 : decode b_D_digit 4 = .ok (.iload_n 1, 1) := by decide +kernel
theorem d_D_digit_5 : decode b_D_digit 5 = .ok (.aload_n 0, 1) := by decide +kernel
theorem d_D_digit_6 : decode b_D_digit 6 = .ok (.invokevirtual 19, 3) := by decide +kernel
theorem d_D_digit_9 : decode b_D_digit 9 = .ok (.if_icmp .ge 12, 3) := by decide +kernel
theorem d_D_digit_12 : decode b_D_digit 12 = .ok (.aload_n 0, 1) := by decide +kernel
theorem d_D_digit_13 : decode b_D_digit 13 = .ok (.getfield 9, 3) := by decide +kernel
theorem d_D_digit_16 : decode b_D_digit 16 = .ok (.iload_n 1, 1) := by decide +kernel
theorem d_D_digit_17 : decode b_D_digit 17 = .ok (.iaload, 1) := by decide +kernel
theorem d_D_digit_18 : decode b_D_digit 18 = .ok (.goto 4, 3) := by decide +kernel
theorem d_D_digit_21 : decode b_D_digit 21 = .ok (.iconst (-1), 1) := by decide +kernel
theorem d_D_digit_22 : decode b_D_digit 22 = .ok (.ireturn, 1) := by decide +kernel
theorem d_D_length_0 : decode b_D_length 0 = .ok (.aload_n 0, 1) := by decide +kernel
theorem d_D_length_1 : decode b_D_length 1 = .ok (.getfield 9, 3) := by decide +kernel
theorem d_D_length_4 : decode b_D_length 4 = .ok (.arraylength, 1) := by decide +kernel
theorem d_D_length_5 : decode b_D_length 5 = .ok (.istore_n 1, 1) := by decide +kernel
theorem d_D_length_6 : decode b_D_length 6 = .ok (.iload_n 1, 1) := by decide +kernel
theorem d_D_length_7 : decode b_D_length 7 = .ok (.iconst 1, 1) := by decide +kernel
theorem d_D_length_8 : decode b_D_length 8 = .ok (.if_icmp .le 20, 3) := by decide +kernel
theorem d_D_length_11 : decode b_D_length 11 = .ok (.aload_n 0, 1) := by decide +kernel
theorem d_D_length_12 : decode b_D_length 12 = .ok (.getfield 9, 3) := by decide +kernel
theorem d_D_length_15 : decode b_D_length 15 = .ok (.iload_n 1, 1) := by decide +kernel
theorem d_D_length_16 : decode b_D_length 16 = .ok (.iconst 1, 1) := by decide +kernel
theorem d_D_length_17 : decode b_D_length 17 = .ok (.isub, 1) := by decide +kernel
theorem d_D_length_18 : decode b_D_length 18 = .ok (.iaload, 1) := by decide +kernel
theorem d_D_length_19 : decode b_D_length 19 = .ok (.ifCond .ne 9, 3) := by decide +kernel
theorem d_D_length_22 : decode b_D_length 22 = .ok (.iinc 1 (-1), 3) := by decide +kernel
theorem d_D_length_25 : decode b_D_length 25 = .ok (.goto (-19), 3) := by decide +kernel
theorem d_D_length_28 : decode b_D_length 28 = .ok (.iload_n 1, 1) := by decide +kernel
theorem d_D_length_29 : decode b_D_length 29 = .ok (.ireturn, 1) := by decide +kernel
theorem d_K_init_0 : decode b_K_init 0 = .ok (.aload_n 0, 1) := by decide +kernel
theorem d_K_init_1 : decode b_K_init 1 = .ok (.invokespecial 1, 3) := by decide +kernel
theorem d_K_init_4 : decode b_K_init 4 = .ok (.iload_n 2, 1) := by decide +kernel
theorem d_K_init_5 : decode b_K_init 5 = .ok (.iload_n 1, 1) := by decide +kernel
theorem d_K_init_6 : decode b_K_init 6 = .ok (.isub, 1) := by decide +kernel
theorem d_K_init_7 : decode b_K_init 7 = .ok (.istore_n 3, 1) := by decide +kernel
theorem d_K_init_8 : decode b_K_init 8 = .ok (.iload_n 3, 1) := by decide +kernel
theorem d_K_init_9 : decode b_K_init 9 = .ok (.iconst 3, 1) := by decide +kernel
theorem d_K_init_10 : decode b_K_init 10 = .ok (.imul, 1) := by decide +kernel
theorem d_K_init_11 : decode b_K_init 11 = .ok (.iconst 2, 1) := by decide +kernel
theorem d_K_init_12 : decode b_K_init 12 = .ok (.idiv, 1) := by decide +kernel
theorem d_K_init_13 : decode b_K_init 13 = .ok (.istore 4, 2) := by decide +kernel
theorem d_K_init_15 : decode b_K_init 15 = .ok (.aload_n 0, 1) := by decide +kernel
theorem d_K_init_16 : decode b_K_init 16 = .ok (.iload 4, 2) := by decide +kernel
theorem d_K_init_18 : decode b_K_init 18 = .ok (.iload_n 2, 1) := by decide +kernel
theorem d_K_init_19 : decode b_K_init 19 = .ok (.multianewarray 7 2, 4) := by decide +kernel
theorem d_K_init_23 : decode b_K_init 23 = .ok (.putfield 9, 3) := by decide +kernel
theorem d_K_init_26 : decode b_K_init 26 = .ok (.aload_n 0, 1) := by decide +kernel
theorem d_K_init_27 : decode b_K_init 27 = .ok (.iload 4, 2) := by decide +kernel
theorem d_K_init_29 : decode b_K_init 29 = .ok (.newarray .int, 2) := by decide +kernel
theorem d_K_init_31 : decode b_K_init 31 = .ok (.putfield 14, 3) := by decide +kernel
theorem d_K_init_34 : decode b_K_init 34 = .ok (.aload_n 0, 1) := by decide +kernel
theorem d_K_init_35 : decode b_K_init 35 = .ok (.iload_n 3, 1) := by decide +kernel
theorem d_K_init_36 : decode b_K_init 36 = .ok (.newarray .int, 2) := by decide +kernel
theorem d_K_init_38 : decode b_K_init 38 = .ok (.putfield 18, 3) := by decide +kernel
theorem d_K_init_41 : decode b_K_init 41 = .ok (.aload_n 0, 1) := by decide +kernel
theorem d_K_init_42 : decode b_K_init 42 = .ok (.iload_n 2, 1) := by decide +kernel
theorem d_K_init_43 : decode b_K_init 43 = .ok (.newarray .int, 2) := by decide +kernel
theorem d_K_init_45 : decode b_K_init 45 = .ok (.putfield 21, 3) := by decide +kernel
theorem d_K_init_48 : decode b_K_init 48 = .ok (.aload_n 0, 1) := by decide +kernel
theorem d_K_init_49 : decode b_K_init 49 = .ok (.iload_n 3, 1) := by decide +kernel
theorem d_K_init_50 : decode b_K_init 50 = .ok (.iload_n 2, 1) := by decide +kernel
theorem d_K_init_51 : decode b_K_init 51 = .ok (.multianewarray 7 2, 4) := by decide +kernel
theorem d_K_init_55 : decode b_K_init 55 = .ok (.putfield 24, 3) := by decide +kernel
theorem d_K_init_58 : decode b_K_init 58 = .ok (.aload_n 0, 1) := by decide +kernel
theorem d_K_init_59 : decode b_K_init 59 = .ok (.getfield 21, 3) := by decide +kernel
theorem d_K_init_62 : decode b_K_init 62 = .ok (.iconst (-1), 1) := by decide +kernel
theorem d_K_init_63 : decode b_K_init 63 = .ok (.invokestatic 27, 3) := by decide +kernel
theorem d_K_init_66 : decode b_K_init 66 = .ok (.aload_n 0, 1) := by decide +kernel
theorem d_K_init_67 : decode b_K_init 67 = .ok (.getfield 18, 3) := by decide +kernel
theorem d_K_init_70 : decode b_K_init 70 = .ok (.iconst 0, 1) := by decide +kernel
theorem d_K_init_71 : decode b_K_init 71 = .ok (.iload_n 1, 1) := by decide +kernel
theorem d_K_init_72 : decode b_K_init 72 = .ok (.iastore, 1) := by decide +kernel
theorem d_K_init_73 : decode b_K_init 73 = .ok (.aload_n 0, 1) := by decide +kernel
theorem d_K_init_74 : decode b_K_init 74 = .ok (.getfield 21, 3) := by decide +kernel
theorem d_K_init_77 : decode b_K_init 77 = .ok (.iload_n 1, 1) := by decide +kernel
theorem d_K_init_78 : decode b_K_init 78 = .ok (.iconst 0, 1) := by decide +kernel
theorem d_K_init_79 : decode b_K_init 79 = .ok (.iastore, 1) := by decide +kernel
theorem d_K_init_80 : decode b_K_init 80 = .ok (.aload_n 0, 1) := by decide +kernel
theorem d_K_init_81 : decode b_K_init 81 = .ok (.iconst 1, 1) := by decide +kernel
theorem d_K_init_82 : decode b_K_init 82 = .ok (.putfield 33, 3) := by decide +kernel
theorem d_K_init_85 : decode b_K_init 85 = .ok (.aload_n 0, 1) := by decide +kernel
theorem d_K_init_86 : decode b_K_init 86 = .ok (.getfield 24, 3) := by decide +kernel
theorem d_K_init_89 : decode b_K_init 89 = .ok (.iconst 0, 1) := by decide +kernel
theorem d_K_init_90 : decode b_K_init 90 = .ok (.aaload, 1) := by decide +kernel
theorem d_K_init_91 : decode b_K_init 91 = .ok (.invokestatic 37, 3) := by decide +kernel
theorem d_K_init_94 : decode b_K_init 94 = .ok (.return_, 1) := by decide +kernel
theorem d_K_clear_0 : decode b_K_clear 0 = .ok (.iconst 1, 1) := by decide +kernel
theorem d_K_clear_1 : decode b_K_clear 1 = .ok (.istore_n 1, 1) := by decide +kernel
theorem d_K_clear_2 : decode b_K_clear 2 = .ok (.iload_n 1, 1) := by decide +kernel
theorem d_K_clear_3 : decode b_K_clear 3 = .ok (.aload_n 0, 1) := by decide +kernel
theorem d_K_clear_4 : decode b_K_clear 4 = .ok (.getfield 33, 3) := by decide +kernel
theorem d_K_clear_7 : decode b_K_clear 7 = .ok (.if_icmp .ge 21, 3) := by decide +kernel
theorem d_K_clear_10 : decode b_K_clear 10 = .ok (.aload_n 0, 1) := by decide +kernel
theorem d_K_clear_11 : decode b_K_clear 11 = .ok (.getfield 21, 3) := by decide +kernel
theorem d_K_clear_14 : decode b_K_clear 14 = .ok (.aload_n 0, 1) := by decide +kernel
theorem d_K_clear_15 : decode b_K_clear 15 = .ok (.getfield 18, 3) := by decide +kernel
theorem d_K_clear_18 : decode b_K_clear 18 = .ok (.iload_n 1, 1) := by decide +kernel
theorem d_K_clear_19 : decode b_K_clear 19 = .ok (.iaload, 1) := by decide +kernel
theorem d_K_clear_20 : decode b_K_clear 20 = .ok (.iconst (-1), 1) := by decide +kernel
theorem d_K_clear_21 : decode b_K_clear 21 = .ok (.iastore, 1) := by decide +kernel
theorem d_K_clear_22 : decode b_K_clear 22 = .ok (.iinc 1 1, 3) := by decide +kernel
theorem d_K_clear_25 : decode b_K_clear 25 = .ok (.goto (-23), 3) := by decide +kernel
theorem d_K_clear_28 : decode b_K_clear 28 = .ok (.aload_n 0, 1) := by decide +kernel
theorem d_K_clear_29 : decode b_K_clear 29 = .ok (.iconst 1, 1) := by decide +kernel
theorem d_K_clear_30 : decode b_K_clear 30 = .ok (.putfield 33, 3) := by decide +kernel
theorem d_K_clear_33 : decode b_K_clear 33 = .ok (.aload_n 0, 1) := by decide +kernel
theorem d_K_clear_34 : decode b_K_clear 34 = .ok (.iconst 0, 1) := by decide +kernel
theorem d_K_clear_35 : decode b_K_clear 35 = .ok (.putfield 43, 3) := by decide +kernel
theorem d_K_clear_38 : decode b_K_clear 38 = .ok (.return_, 1) := by decide +kernel
theorem d_K_spreadSize_0 : decode b_K_spreadSize 0 = .ok (.aload_n 0, 1) := by decide +kernel
theorem d_K_spreadSize_1 : decode b_K_spreadSize 1 = .ok (.getfield 33, 3) := by decide +kernel
theorem d_K_spreadSize_4 : decode b_K_spreadSize 4 = .ok (.ireturn, 1) := by decide +kernel
theorem d_K_undo_0 : decode b_K_undo 0 = .ok (.aload_n 0, 1) := by decide +kernel
theorem d_K_undo_1 : decode b_K_undo 1 = .ok (.getfield 18, 3) := by decide +kernel
theorem d_K_undo_4 : decode b_K_undo 4 = .ok (.iconst 0, 1) := by decide +kernel
theorem d_K_undo_5 : decode b_K_undo 5 = .ok (.iaload, 1) := by decide +kernel
theorem d_K_undo_6 : decode b_K_undo 6 = .ok (.istore_n 2, 1) := by decide +kernel
theorem d_K_undo_7 : decode b_K_undo 7 = .ok (.aload_n 0, 1) := by decide +kernel
theorem d_K_undo_8 : decode b_K_undo 8 = .ok (.getfield 21, 3) := by decide +kernel
theorem d_K_undo_11 : decode b_K_undo 11 = .ok (.aload_n 1, 1) := by decide +kernel
theorem d_K_undo_12 : decode b_K_undo 12 = .ok (.iload_n 2, 1) := by decide +kernel
theorem d_K_undo_13 : decode b_K_undo 13 = .ok (.iaload, 1) := by decide +kernel
theorem d_K_undo_14 : decode b_K_undo 14 = .ok (.iaload, 1) := by decide +kernel
theorem d_K_undo_15 : decode b_K_undo 15 = .ok (.istore_n 3, 1) := by decide +kernel
theorem d_K_undo_16 : decode b_K_undo 16 = .ok (.iload_n 3, 1) := by decide +kernel
theorem d_K_undo_17 : decode b_K_undo 17 = .ok (.ifCond .ge 5, 3) := by decide +kernel
theorem d_K_undo_20 : decode b_K_undo 20 = .ok (.iconst 0, 1) := by decide +kernel
theorem d_K_undo_21 : decode b_K_undo 21 = .ok (.ireturn, 1) := by decide +kernel
theorem d_K_undo_22 : decode b_K_undo 22 = .ok (.aload_n 0, 1) := by decide +kernel
theorem d_K_undo_23 : decode b_K_undo 23 = .ok (.getfield 24, 3) := by decide +kernel
theorem d_K_undo_26 : decode b_K_undo 26 = .ok (.iload_n 3, 1) := by decide +kernel
theorem d_K_undo_27 : decode b_K_undo 27 = .ok (.aaload, 1) := by decide +kernel
theorem d_K_undo_28 : decode b_K_undo 28 = .ok (.astore 4, 2) := by decide +kernel
theorem d_K_undo_30 : decode b_K_undo 30 = .ok (.iload_n 2, 1) := by decide +kernel
theorem d_K_undo_31 : decode b_K_undo 31 = .ok (.istore 5, 2) := by decide +kernel
theorem d_K_undo_33 : decode b_K_undo 33 = .ok (.iload 5, 2) := by decide +kernel
theorem d_K_undo_35 : decode b_K_undo 35 = .ok (.aload_n 1, 1) := by decide +kernel
theorem d_K_undo_36 : decode b_K_undo 36 = .ok (.arraylength, 1) := by decide +kernel
theorem d_K_undo_37 : decode b_K_undo 37 = .ok (.if_icmp .ge 20, 3) := by decide +kernel
theorem d_K_undo_40 : decode b_K_undo 40 = .ok (.aload_n 1, 1) := by decide +kernel
theorem d_K_undo_41 : decode b_K_undo 41 = .ok (.iload 5, 2) := by decide +kernel
theorem d_K_undo_43 : decode b_K_undo 43 = .ok (.aload 4, 2) := by decide +kernel
theorem d_K_undo_45 : decode b_K_undo 45 = .ok (.aload_n 1, 1) := by decide +kernel
theorem d_K_undo_46 : decode b_K_undo 46 = .ok (.iload 5, 2) := by decide +kernel
theorem d_K_undo_48 : decode b_K_undo 48 = .ok (.iaload, 1) := by decide +kernel
theorem d_K_undo_49 : decode b_K_undo 49 = .ok (.iaload, 1) := by decide +kernel
theorem d_K_undo_50 : decode b_K_undo 50 = .ok (.iastore, 1) := by decide +kernel
theorem d_K_undo_51 : decode b_K_undo 51 = .ok (.iinc 5 1, 3) := by decide +kernel
theorem d_K_undo_54 : decode b_K_undo 54 = .ok (.goto (-21), 3) := by decide +kernel
theorem d_K_undo_57 : decode b_K_undo 57 = .ok (.iconst 1, 1) := by decide +kernel
theorem d_K_undo_58 : decode b_K_undo 58 = .ok (.ireturn, 1) := by decide +kernel
theorem d_K_addGenerator_0 : decode b_K_addGenerator 0 = .ok (.aload_n 0, 1) := by decide +kernel
theorem d_K_addGenerator_1 : decode b_K_addGenerator 1 = .ok (.getfield 43, 3) := by decide +kernel
theorem d_K_addGenerator_4 : decode b_K_addGenerator 4 = .ok (.aload_n 0, 1) := by decide +kernel
theorem d_K_addGenerator_5 : decode b_K_addGenerator 5 = .ok (.getfield 9, 3) := by decide +kernel
theorem d_K_addGenerator_8 : decode b_K_addGenerator 8 = .ok (.arraylength, 1) := by decide +kernel
theorem d_K_addGenerator_9 : decode b_K_addGenerator 9 = .ok (.if_icmp .lt 4, 3) := by decide +kernel
theorem d_K_addGenerator_12 : decode b_K_addGenerator 12 = .ok (.return_, 1) := by decide +kernel
theorem d_K_addGenerator_13 : decode b_K_addGenerator 13 = .ok (.aload_n 1, 1) := by decide +kernel
theorem d_K_addGenerator_14 : decode b_K_addGenerator 14 = .ok (.iconst 0, 1) := by decide +kernel
theorem d_K_addGenerator_15 : decode b_K_addGenerator 15 = .ok (.aload_n 0, 1) := by decide +kernel
theorem d_K_addGenerator_16 : decode b_K_addGenerator 16 = .ok (.getfield 9, 3) := by decide +kernel
theorem d_K_addGenerator_19 : decode b_K_addGenerator 19 = .ok (.aload_n 0, 1) := by decide +kernel
theorem d_K_addGenerator_20 : decode b_K_addGenerator 20 = .ok (.getfield 43, 3) := by decide +kernel
theorem d_K_addGenerator_23 : decode b_K_addGenerator 23 = .ok (.aaload, 1) := by decide +kernel
theorem d_K_addGenerator_24 : decode b_K_addGenerator 24 = .ok (.iconst 0, 1) := by decide +kernel
theorem d_K_addGenerator_25 : decode b_K_addGenerator 25 = .ok (.aload_n 1, 1) := by decide +kernel
theorem d_K_addGenerator_26 : decode b_K_addGenerator 26 = .ok (.arraylength, 1) := by decide +kernel
theorem d_K_addGenerator_27 : decode b_K_addGenerator 27 = .ok (.invokestatic 46, 3) := by decide +kernel
theorem d_K_addGenerator_30 : decode b_K_addGenerator 30 = .ok (.aload_n 0, 1) := by decide +kernel
theorem d_K_addGenerator_31 : decode b_K_addGenerator 31 = .ok (.getfield 14, 3) := by decide +kernel
theorem d_K_addGenerator_34 : decode b_K_addGenerator 34 = .ok (.aload_n 0, 1) := by decide +kernel
theorem d_K_addGenerator_35 : decode b_K_addGenerator 35 = .ok (.getfield 43, 3) := by decide +kernel
theorem d_K_addGenerator_38 : decode b_K_addGenerator 38 = .ok (.iconst 0, 1) := by decide +kernel
theorem d_K_addGenerator_39 : decode b_K_addGenerator 39 = .ok (.iastore, 1) := by decide +kernel
theorem d_K_addGenerator_40 : decode b_K_addGenerator 40 = .ok (.aload_n 0, 1) := by decide +kernel
theorem d_K_addGenerator_41 : decode b_K_addGenerator 41 = .ok (.dup, 1) := by decide +kernel
theorem d_K_addGenerator_42 : decode b_K_addGenerator 42 = .ok (.getfield 43, 3) := by decide +kernel
theorem d_K_addGenerator_45 : decode b_K_addGenerator 45 = .ok (.iconst 1, 1) := by decide +kernel
theorem d_K_addGenerator_46 : decode b_K_addGenerator 46 = .ok (.iadd, 1) := by decide +kernel
theorem d_K_addGenerator_47 : decode b_K_addGenerator 47 = .ok (.putfield 43, 3) := by decide +kernel
theorem d_K_addGenerator_50 : decode b_K_addGenerator 50 = .ok (.return_, 1) := by decide +kernel
theorem d_K_openGenerator_0 : decode b_K_openGenerator 0 = .ok (.iconst 0, 1) := by decide +kernel
theorem d_K_openGenerator_1 : decode b_K_openGenerator 1 = .ok (.istore_n 1, 1) := by decide +kernel
theorem d_K_openGenerator_2 : decode b_K_openGenerator 2 = .ok (.iload_n 1, 1) := by decide +kernel
theorem d_K_openGenerator_3 : decode b_K_openGenerator 3 = .ok (.aload_n 0, 1) := by decide +kernel
theorem d_K_openGenerator_4 : decode b_K_openGenerator 4 = .ok (.getfield 43, 3) := by decide +kernel
theorem d_K_openGenerator_7 : decode b_K_openGenerator 7 = .ok (.if_icmp .ge 24, 3) := by decide +kernel
theorem d_K_openGenerator_10 : decode b_K_openGenerator 10 = .ok (.aload_n 0, 1) := by decide +kernel
theorem d_K_openGenerator_11 : decode b_K_openGenerator 11 = .ok (.getfield 14, 3) := by decide +kernel
theorem d_K_openGenerator_14 : decode b_K_openGenerator 14 = .ok (.iload_n 1, 1) := by decide +kernel
theorem d_K_openGenerator_15 : decode b_K_openGenerator 15 = .ok (.iaload, 1) := by decide +kernel
theorem d_K_openGenerator_16 : decode b_K_openGenerator 16 = .ok (.aload_n 0, 1) := by decide +kernel
theorem d_K_openGenerator_17 : decode b_K_openGenerator 17 = .ok (.getfield 33, 3) := by decide +kernel
theorem d_K_openGenerator_20 : decode b_K_openGenerator 20 = .ok (.if_icmp .ge 5, 3) := by decide +kernel
theorem d_K_openGenerator_23 : decode b_K_openGenerator 23 = .ok (.iload_n 1, 1) := by decide +kernel
theorem d_K_openGenerator_24 : decode b_K_openGenerator 24 = .ok (.ireturn, 1) := by decide +kernel
theorem d_K_openGenerator_25 : decode b_K_openGenerator 25 = .ok (.iinc 1 1, 3) := by decide +kernel
theorem d_K_openGenerator_28 : decode b_K_openGenerator 28 = .ok (.goto (-26), 3) := by decide +kernel
theorem d_K_openGenerator_31 : decode b_K_openGenerator 31 = .ok (.iconst (-1), 1) := by decide +kernel
theorem d_K_openGenerator_32 : decode b_K_openGenerator 32 = .ok (.ireturn, 1) := by decide +kernel
theorem d_K_reachesNewPlace_0 : decode b_K_reachesNewPlace 0 = .ok (.aload_n 0, 1) := by decide +kernel
theorem d_K_reachesNewPlace_1 : decode b_K_reachesNewPlace 1 = .ok (.getfield 9, 3) := by decide +kernel
theorem d_K_reachesNewPlace_4 : decode b_K_reachesNewPlace 4 = .ok (.iload_n 1, 1) := by decide +kernel
theorem d_K_reachesNewPlace_5 : decode b_K_reachesNewPlace 5 = .ok (.aaload, 1) := by decide +kernel
theorem d_K_reachesNewPlace_6 : decode b_K_reachesNewPlace 6 = .ok (.astore_n 3, 1) := by decide +kernel
theorem d_K_reachesNewPlace_7 : decode b_K_reachesNewPlace 7 = .ok (.aload_n 0, 1) := by decide +kernel
theorem d_K_reachesNewPlace_8 : decode b_K_reachesNewPlace 8 = .ok (.getfield 24, 3) := by decide +kernel
theorem d_K_reachesNewPlace_11 : decode b_K_reachesNewPlace 11 = .ok (.aload_n 0, 1) := by decide +kernel
theorem d_K_reachesNewPlace_12 : decode b_K_reachesNewPlace 12 = .ok (.getfield 14, 3) := by decide +kernel
theorem d_K_reachesNewPlace_15 : decode b_K_reachesNewPlace 15 = .ok (.iload_n 1, 1) := by decide +kernel
theorem d_K_reachesNewPlace_16 : decode b_K_reachesNewPlace 16 = .ok (.iaload, 1) := by decide +kernel
theorem d_K_reachesNewPlace_17 : decode b_K_reachesNewPlace 17 = .ok (.aaload, 1) := by decide +kernel
theorem d_K_reachesNewPlace_18 : decode b_K_reachesNewPlace 18 = .ok (.astore 4, 2) := by decide +kernel
theorem d_K_reachesNewPlace_20 : decode b_K_reachesNewPlace 20 = .ok (.aload_n 3, 1) := by decide +kernel
theorem d_K_reachesNewPlace_21 : decode b_K_reachesNewPlace 21 = .ok (.aload_n 0, 1) := by decide +kernel
theorem d_K_reachesNewPlace_22 : decode b_K_reachesNewPlace 22 = .ok (.getfield 18, 3) := by decide +kernel
theorem d_K_reachesNewPlace_25 : decode b_K_reachesNewPlace 25 = .ok (.aload_n 0, 1) := by decide +kernel
theorem d_K_reachesNewPlace_26 : decode b_K_reachesNewPlace 26 = .ok (.getfield 14, 3) := by decide +kernel
theorem d_K_reachesNewPlace_29 : decode b_K_reachesNewPlace 29 = .ok (.iload_n 1, 1) := by decide +kernel
theorem d_K_reachesNewPlace_30 : decode b_K_reachesNewPlace 30 = .ok (.iaload, 1) := by decide +kernel
theorem d_K_reachesNewPlace_31 : decode b_K_reachesNewPlace 31 = .ok (.iaload, 1) := by decide +kernel
theorem d_K_reachesNewPlace_32 : decode b_K_reachesNewPlace 32 = .ok (.iaload, 1) := by decide +kernel
theorem d_K_reachesNewPlace_33 : decode b_K_reachesNewPlace 33 = .ok (.istore 5, 2) := by decide +kernel
theorem d_K_reachesNewPlace_35 : decode b_K_reachesNewPlace 35 = .ok (.aload_n 0, 1) := by decide +kernel
theorem d_K_reachesNewPlace_36 : decode b_K_reachesNewPlace 36 = .ok (.getfield 14, 3) := by decide +kernel
theorem d_K_reachesNewPlace_39 : decode b_K_reachesNewPlace 39 = .ok (.iload_n 1, 1) := by decide +kernel
theorem d_K_reachesNewPlace_40 : decode b_K_reachesNewPlace 40 = .ok (.dup2, 1) := by decide +kernel
theorem d_K_reachesNewPlace_41 : decode b_K_reachesNewPlace 41 = .ok (.iaload, 1) := by decide +kernel
theorem d_K_reachesNewPlace_42 : decode b_K_reachesNewPlace 42 = .ok (.iconst 1, 1) := by decide +kernel
theorem d_K_reachesNewPlace_43 : decode b_K_reachesNewPlace 43 = .ok (.iadd, 1) := by decide +kernel
theorem d_K_reachesNewPlace_44 : decode b_K_reachesNewPlace 44 = .ok (.iastore, 1) := by decide +kernel
theorem d_K_reachesNewPlace_45 : decode b_K_reachesNewPlace 45 = .ok (.aload_n 0, 1) := by decide +kernel
theorem d_K_reachesNewPlace_46 : decode b_K_reachesNewPlace 46 = .ok (.getfield 21, 3) := by decide +kernel
theorem d_K_reachesNewPlace_49 : decode b_K_reachesNewPlace 49 = .ok (.iload 5, 2) := by decide +kernel
theorem d_K_reachesNewPlace_51 : decode b_K_reachesNewPlace 51 = .ok (.iaload, 1) := by decide +kernel
theorem d_K_reachesNewPlace_52 : decode b_K_reachesNewPlace 52 = .ok (.istore 6, 2) := by decide +kernel
theorem d_K_reachesNewPlace_54 : decode b_K_reachesNewPlace 54 = .ok (.iload 6, 2) := by decide +kernel
theorem d_K_reachesNewPlace_56 : decode b_K_reachesNewPlace 56 = .ok (.ifCond .ge 14, 3) := by decide +kernel
theorem d_K_reachesNewPlace_59 : decode b_K_reachesNewPlace 59 = .ok (.aload_n 0, 1) := by decide +kernel
theorem d_K_reachesNewPlace_60 : decode b_K_reachesNewPlace 60 = .ok (.iload 5, 2) := by decide +kernel
theorem d_K_reachesNewPlace_62 : decode b_K_reachesNewPlace 62 = .ok (.aload_n 3, 1) := by decide +kernel
theorem d_K_reachesNewPlace_63 : decode b_K_reachesNewPlace 63 = .ok (.aload 4, 2) := by decide +kernel
theorem d_K_reachesNewPlace_65 : decode b_K_reachesNewPlace 65 = .ok (.invokevirtual 52, 3) := by decide +kernel
theorem d_K_reachesNewPlace_68 : decode b_K_reachesNewPlace 68 = .ok (.iconst 1, 1) := by decide +kernel
theorem d_K_reachesNewPlace_69 : decode b_K_reachesNewPlace 69 = .ok (.ireturn, 1) := by decide +kernel
theorem d_K_reachesNewPlace_70 : decode b_K_reachesNewPlace 70 = .ok (.aload_n 0, 1) := by decide +kernel
theorem d_K_reachesNewPlace_71 : decode b_K_reachesNewPlace 71 = .ok (.getfield 24, 3) := by decide +kernel
theorem d_K_reachesNewPlace_74 : decode b_K_reachesNewPlace 74 = .ok (.iload 6, 2) := by decide +kernel
theorem d_K_reachesNewPlace_76 : decode b_K_reachesNewPlace 76 = .ok (.aaload, 1) := by decide +kernel
theorem d_K_reachesNewPlace_77 : decode b_K_reachesNewPlace 77 = .ok (.astore 7, 2) := by decide +kernel
theorem d_K_reachesNewPlace_79 : decode b_K_reachesNewPlace 79 = .ok (.iconst 0, 1) := by decide +kernel
theorem d_K_reachesNewPlace_80 : decode b_K_reachesNewPlace 80 = .ok (.istore 8, 2) := by decide +kernel
theorem d_K_reachesNewPlace_82 : decode b_K_reachesNewPlace 82 = .ok (.iload 8, 2) := by decide +kernel
theorem d_K_reachesNewPlace_84 : decode b_K_reachesNewPlace 84 = .ok (.aload_n 2, 1) := by decide +kernel
theorem d_K_reachesNewPlace_85 : decode b_K_reachesNewPlace 85 = .ok (.arraylength, 1) := by decide +kernel
theorem d_K_reachesNewPlace_86 : decode b_K_reachesNewPlace 86 = .ok (.if_icmp .ge 23, 3) := by decide +kernel
theorem d_K_reachesNewPlace_89 : decode b_K_reachesNewPlace 89 = .ok (.aload_n 2, 1) := by decide +kernel
theorem d_K_reachesNewPlace_90 : decode b_K_reachesNewPlace 90 = .ok (.aload 4, 2) := by decide +kernel
theorem d_K_reachesNewPlace_92 : decode b_K_reachesNewPlace 92 = .ok (.iload 8, 2) := by decide +kernel
theorem d_K_reachesNewPlace_94 : decode b_K_reachesNewPlace 94 = .ok (.iaload, 1) := by decide +kernel
theorem d_K_reachesNewPlace_95 : decode b_K_reachesNewPlace 95 = .ok (.aload 7, 2) := by decide +kernel
theorem d_K_reachesNewPlace_97 : decode b_K_reachesNewPlace 97 = .ok (.aload_n 3, 1) := by decide +kernel
theorem d_K_reachesNewPlace_98 : decode b_K_reachesNewPlace 98 = .ok (.iload 8, 2) := by decide +kernel
theorem d_K_reachesNewPlace_100 : decode b_K_reachesNewPlace 100 = .ok (.iaload, 1) := by decide +kernel
theorem d_K_reachesNewPlace_101 : decode b_K_reachesNewPlace 101 = .ok (.iaload, 1) := by decide +kernel
theorem d_K_reachesNewPlace_102 : decode b_K_reachesNewPlace 102 = .ok (.iastore, 1) := by decide +kernel
theorem d_K_reachesNewPlace_103 : decode b_K_reachesNewPlace 103 = .ok (.iinc 8 1, 3) := by decide +kernel
theorem d_K_reachesNewPlace_106 : decode b_K_reachesNewPlace 106 = .ok (.goto (-24), 3) := by decide +kernel
theorem d_K_reachesNewPlace_109 : decode b_K_reachesNewPlace 109 = .ok (.iconst 0, 1) := by decide +kernel
theorem d_K_reachesNewPlace_110 : decode b_K_reachesNewPlace 110 = .ok (.ireturn, 1) := by decide +kernel
theorem d_K_widen_0 : decode b_K_widen 0 = .ok (.aload_n 0, 1) := by decide +kernel
theorem d_K_widen_1 : decode b_K_widen 1 = .ok (.getfield 33, 3) := by decide +kernel
theorem d_K_widen_4 : decode b_K_widen 4 = .ok (.aload_n 0, 1) := by decide +kernel
theorem d_K_widen_5 : decode b_K_widen 5 = .ok (.getfield 18, 3) := by decide +kernel
theorem d_K_widen_8 : decode b_K_widen 8 = .ok (.arraylength, 1) := by decide +kernel
theorem d_K_widen_9 : decode b_K_widen 9 = .ok (.if_icmp .lt 4, 3) := by decide +kernel
theorem d_K_widen_12 : decode b_K_widen 12 = .ok (.return_, 1) := by decide +kernel
theorem d_K_widen_13 : decode b_K_widen 13 = .ok (.aload_n 0, 1) := by decide +kernel
theorem d_K_widen_14 : decode b_K_widen 14 = .ok (.getfield 24, 3) := by decide +kernel
theorem d_K_widen_17 : decode b_K_widen 17 = .ok (.aload_n 0, 1) := by decide +kernel
theorem d_K_widen_18 : decode b_K_widen 18 = .ok (.getfield 33, 3) := by decide +kernel
theorem d_K_widen_21 : decode b_K_widen 21 = .ok (.aaload, 1) := by decide +kernel
theorem d_K_widen_22 : decode b_K_widen 22 = .ok (.astore 4, 2) := by decide +kernel
theorem d_K_widen_24 : decode b_K_widen 24 = .ok (.iconst 0, 1) := by decide +kernel
theorem d_K_widen_25 : decode b_K_widen 25 = .ok (.istore 5, 2) := by decide +kernel
theorem d_K_widen_27 : decode b_K_widen 27 = .ok (.iload 5, 2) := by decide +kernel
theorem d_K_widen_29 : decode b_K_widen 29 = .ok (.aload 4, 2) := by decide +kernel
theorem d_K_widen_31 : decode b_K_widen 31 = .ok (.arraylength, 1) := by decide +kernel
theorem d_K_widen_32 : decode b_K_widen 32 = .ok (.if_icmp .ge 20, 3) := by decide +kernel
theorem d_K_widen_35 : decode b_K_widen 35 = .ok (.aload 4, 2) := by decide +kernel
theorem d_K_widen_37 : decode b_K_widen 37 = .ok (.aload_n 2, 1) := by decide +kernel
theorem d_K_widen_38 : decode b_K_widen 38 = .ok (.iload 5, 2) := by decide +kernel
theorem d_K_widen_40 : decode b_K_widen 40 = .ok (.iaload, 1) := by decide +kernel
theorem d_K_widen_41 : decode b_K_widen 41 = .ok (.aload_n 3, 1) := by decide +kernel
theorem d_K_widen_42 : decode b_K_widen 42 = .ok (.iload 5, 2) := by decide +kernel
theorem d_K_widen_44 : decode b_K_widen 44 = .ok (.iaload, 1) := by decide +kernel
theorem d_K_widen_45 : decode b_K_widen 45 = .ok (.iastore, 1) := by decide +kernel
theorem d_K_widen_46 : decode b_K_widen 46 = .ok (.iinc 5 1, 3) := by decide +kernel
theorem d_K_widen_49 : decode b_K_widen 49 = .ok (.goto (-22), 3) := by decide +kernel
theorem d_K_widen_52 : decode b_K_widen 52 = .ok (.aload_n 0, 1) := by decide +kernel
theorem d_K_widen_53 : decode b_K_widen 53 = .ok (.getfield 18, 3) := by decide +kernel
theorem d_K_widen_56 : decode b_K_widen 56 = .ok (.aload_n 0, 1) := by decide +kernel
theorem d_K_widen_57 : decode b_K_widen 57 = .ok (.getfield 33, 3) := by decide +kernel
theorem d_K_widen_60 : decode b_K_widen 60 = .ok (.iload_n 1, 1) := by decide +kernel
theorem d_K_widen_61 : decode b_K_widen 61 = .ok (.iastore, 1) := by decide +kernel
theorem d_K_widen_62 : decode b_K_widen 62 = .ok (.aload_n 0, 1) := by decide +kernel
theorem d_K_widen_63 : decode b_K_widen 63 = .ok (.getfield 21, 3) := by decide +kernel
theorem d_K_widen_66 : decode b_K_widen 66 = .ok (.iload_n 1, 1) := by decide +kernel
theorem d_K_widen_67 : decode b_K_widen 67 = .ok (.aload_n 0, 1) := by decide +kernel
theorem d_K_widen_68 : decode b_K_widen 68 = .ok (.getfield 33, 3) := by decide +kernel
theorem d_K_widen_71 : decode b_K_widen 71 = .ok (.iastore, 1) := by decide +kernel
theorem d_K_widen_72 : decode b_K_widen 72 = .ok (.aload_n 0, 1) := by decide +kernel
theorem d_K_widen_73 : decode b_K_widen 73 = .ok (.dup, 1) := by decide +kernel
theorem d_K_widen_74 : decode b_K_widen 74 = .ok (.getfield 33, 3) := by decide +kernel
theorem d_K_widen_77 : decode b_K_widen 77 = .ok (.iconst 1, 1) := by decide +kernel
theorem d_K_widen_78 : decode b_K_widen 78 = .ok (.iadd, 1) := by decide +kernel
theorem d_K_widen_79 : decode b_K_widen 79 = .ok (.putfield 33, 3) := by decide +kernel
theorem d_K_widen_82 : decode b_K_widen 82 = .ok (.return_, 1) := by decide +kernel
theorem d_P_init_0 : decode b_P_init 0 = .ok (.aload_n 0, 1) := by decide +kernel
theorem d_P_init_1 : decode b_P_init 1 = .ok (.invokespecial 1, 3) := by decide +kernel
theorem d_P_init_4 : decode b_P_init 4 = .ok (.aload_n 0, 1) := by decide +kernel
theorem d_P_init_5 : decode b_P_init 5 = .ok (.iload_n 1, 1) := by decide +kernel
theorem d_P_init_6 : decode b_P_init 6 = .ok (.newarray .int, 2) := by decide +kernel
theorem d_P_init_8 : decode b_P_init 8 = .ok (.putfield 7, 3) := by decide +kernel
theorem d_P_init_11 : decode b_P_init 11 = .ok (.return_, 1) := by decide +kernel
theorem d_P_separate_0 : decode b_P_separate 0 = .ok (.aload_n 0, 1) := by decide +kernel
theorem d_P_separate_1 : decode b_P_separate 1 = .ok (.getfield 7, 3) := by decide +kernel
theorem d_P_separate_4 : decode b_P_separate 4 = .ok (.invokestatic 13, 3) := by decide +kernel
theorem d_P_separate_7 : decode b_P_separate 7 = .ok (.return_, 1) := by decide +kernel
theorem d_P_join_0 : decode b_P_join 0 = .ok (.aload_n 0, 1) := by decide +kernel
theorem d_P_join_1 : decode b_P_join 1 = .ok (.getfield 7, 3) := by decide +kernel
theorem d_P_join_4 : decode b_P_join 4 = .ok (.iload_n 1, 1) := by decide +kernel
theorem d_P_join_5 : decode b_P_join 5 = .ok (.iaload, 1) := by decide +kernel
theorem d_P_join_6 : decode b_P_join 6 = .ok (.aload_n 0, 1) := by decide +kernel
theorem d_P_join_7 : decode b_P_join 7 = .ok (.getfield 7, 3) := by decide +kernel
theorem d_P_join_10 : decode b_P_join 10 = .ok (.iload_n 2, 1) := by decide +kernel
theorem d_P_join_11 : decode b_P_join 11 = .ok (.iaload, 1) := by decide +kernel
theorem d_P_join_12 : decode b_P_join 12 = .ok (.invokestatic 19, 3) := by decide +kernel
theorem d_P_join_15 : decode b_P_join 15 = .ok (.istore_n 3, 1) := by decide +kernel
theorem d_P_join_16 : decode b_P_join 16 = .ok (.aload_n 0, 1) := by decide +kernel
theorem d_P_join_17 : decode b_P_join 17 = .ok (.getfield 7, 3) := by decide +kernel
theorem d_P_join_20 : decode b_P_join 20 = .ok (.iload_n 1, 1) := by decide +kernel
theorem d_P_join_21 : decode b_P_join 21 = .ok (.iaload, 1) := by decide +kernel
theorem d_P_join_22 : decode b_P_join 22 = .ok (.aload_n 0, 1) := by decide +kernel
theorem d_P_join_23 : decode b_P_join 23 = .ok (.getfield 7, 3) := by decide +kernel
theorem d_P_join_26 : decode b_P_join 26 = .ok (.iload_n 2, 1) := by decide +kernel
theorem d_P_join_27 : decode b_P_join 27 = .ok (.iaload, 1) := by decide +kernel
theorem d_P_join_28 : decode b_P_join 28 = .ok (.invokestatic 25, 3) := by decide +kernel
theorem d_P_join_31 : decode b_P_join 31 = .ok (.istore 4, 2) := by decide +kernel
theorem d_P_join_33 : decode b_P_join 33 = .ok (.iload_n 3, 1) := by decide +kernel
theorem d_P_join_34 : decode b_P_join 34 = .ok (.iload 4, 2) := by decide +kernel
theorem d_P_join_36 : decode b_P_join 36 = .ok (.if_icmp .ne 5, 3) := by decide +kernel
theorem d_P_join_39 : decode b_P_join 39 = .ok (.iconst 0, 1) := by decide +kernel
theorem d_P_join_40 : decode b_P_join 40 = .ok (.ireturn, 1) := by decide +kernel
theorem d_P_join_41 : decode b_P_join 41 = .ok (.iconst 0, 1) := by decide +kernel
theorem d_P_join_42 : decode b_P_join 42 = .ok (.istore 5, 2) := by decide +kernel
theorem d_P_join_44 : decode b_P_join 44 = .ok (.iload 5, 2) := by decide +kernel
theorem d_P_join_46 : decode b_P_join 46 = .ok (.aload_n 0, 1) := by decide +kernel
theorem d_P_join_47 : decode b_P_join 47 = .ok (.getfield 7, 3) := by decide +kernel
theorem d_P_join_50 : decode b_P_join 50 = .ok (.arraylength, 1) := by decide +kernel
theorem d_P_join_51 : decode b_P_join 51 = .ok (.if_icmp .ge 29, 3) := by decide +kernel
theorem d_P_join_54 : decode b_P_join 54 = .ok (.aload_n 0, 1) := by decide +kernel
theorem d_P_join_55 : decode b_P_join 55 = .ok (.getfield 7, 3) := by decide +kernel
theorem d_P_join_58 : decode b_P_join 58 = .ok (.iload 5, 2) := by decide +kernel
theorem d_P_join_60 : decode b_P_join 60 = .ok (.iaload, 1) := by decide +kernel
theorem d_P_join_61 : decode b_P_join 61 = .ok (.iload 4, 2) := by decide +kernel
theorem d_P_join_63 : decode b_P_join 63 = .ok (.if_icmp .ne 11, 3) := by decide +kernel
theorem d_P_join_66 : decode b_P_join 66 = .ok (.aload_n 0, 1) := by decide +kernel
theorem d_P_join_67 : decode b_P_join 67 = .ok (.getfield 7, 3) := by decide +kernel
theorem d_P_join_70 : decode b_P_join 70 = .ok (.iload 5, 2) := by decide +kernel
theorem d_P_join_72 : decode b_P_join 72 = .ok (.iload_n 3, 1) := by decide +kernel
theorem d_P_join_73 : decode b_P_join 73 = .ok (.iastore, 1) := by decide +kernel
theorem d_P_join_74 : decode b_P_join 74 = .ok (.iinc 5 1, 3) := by decide +kernel
theorem d_P_join_77 : decode b_P_join 77 = .ok (.goto (-33), 3) := by decide +kernel
theorem d_P_join_80 : decode b_P_join 80 = .ok (.iconst 1, 1) := by decide +kernel
theorem d_P_join_81 : decode b_P_join 81 = .ok (.ireturn, 1) := by decide +kernel
theorem d_P_joinOrbits_0 : decode b_P_joinOrbits 0 = .ok (.iconst 0, 1) := by decide +kernel
theorem d_P_joinOrbits_1 : decode b_P_joinOrbits 1 = .ok (.istore_n 3, 1) := by decide +kernel
theorem d_P_joinOrbits_2 : decode b_P_joinOrbits 2 = .ok (.iload_n 3, 1) := by decide +kernel
theorem d_P_joinOrbits_3 : decode b_P_joinOrbits 3 = .ok (.iload_n 2, 1) := by decide +kernel
theorem d_P_joinOrbits_4 : decode b_P_joinOrbits 4 = .ok (.if_icmp .ge 41, 3) := by decide +kernel
theorem d_P_joinOrbits_7 : decode b_P_joinOrbits 7 = .ok (.iconst 0, 1) := by decide +kernel
theorem d_P_joinOrbits_8 : decode b_P_joinOrbits 8 = .ok (.istore 4, 2) := by decide +kernel
theorem d_P_joinOrbits_10 : decode b_P_joinOrbits 10 = .ok (.iload 4, 2) := by decide +kernel
theorem d_P_joinOrbits_12 : decode b_P_joinOrbits 12 = .ok (.aload_n 0, 1) := by decide +kernel
theorem d_P_joinOrbits_13 : decode b_P_joinOrbits 13 = .ok (.getfield 7, 3) := by decide +kernel
theorem d_P_joinOrbits_16 : decode b_P_joinOrbits 16 = .ok (.arraylength, 1) := by decide +kernel
theorem d_P_joinOrbits_17 : decode b_P_joinOrbits 17 = .ok (.if_icmp .ge 22, 3) := by decide +kernel
theorem d_P_joinOrbits_20 : decode b_P_joinOrbits 20 = .ok (.aload_n 0, 1) := by decide +kernel
theorem d_P_joinOrbits_21 : decode b_P_joinOrbits 21 = .ok (.iload 4, 2) := by decide +kernel
theorem d_P_joinOrbits_23 : decode b_P_joinOrbits 23 = .ok (.aload_n 1, 1) := by decide +kernel
theorem d_P_joinOrbits_24 : decode b_P_joinOrbits 24 = .ok (.iload_n 3, 1) := by decide +kernel
theorem d_P_joinOrbits_25 : decode b_P_joinOrbits 25 = .ok (.aaload, 1) := by decide +kernel
theorem d_P_joinOrbits_26 : decode b_P_joinOrbits 26 = .ok (.iload 4, 2) := by decide +kernel
theorem d_P_joinOrbits_28 : decode b_P_joinOrbits 28 = .ok (.iaload, 1) := by decide +kernel
theorem d_P_joinOrbits_29 : decode b_P_joinOrbits 29 = .ok (.invokevirtual 28, 3) := by decide +kernel
theorem d_P_joinOrbits_32 : decode b_P_joinOrbits 32 = .ok (.pop, 1) := by decide +kernel
theorem d_P_joinOrbits_33 : decode b_P_joinOrbits 33 = .ok (.iinc 4 1, 3) := by decide +kernel
theorem d_P_joinOrbits_36 : decode b_P_joinOrbits 36 = .ok (.goto (-26), 3) := by decide +kernel
theorem d_P_joinOrbits_39 : decode b_P_joinOrbits 39 = .ok (.iinc 3 1, 3) := by decide +kernel
theorem d_P_joinOrbits_42 : decode b_P_joinOrbits 42 = .ok (.goto (-40), 3) := by decide +kernel
theorem d_P_joinOrbits_45 : decode b_P_joinOrbits 45 = .ok (.return_, 1) := by decide +kernel
theorem d_P_joinImages_0 : decode b_P_joinImages 0 = .ok (.iconst 1, 1) := by decide +kernel
theorem d_P_joinImages_1 : decode b_P_joinImages 1 = .ok (.istore_n 3, 1) := by decide +kernel
theorem d_P_joinImages_2 : decode b_P_joinImages 2 = .ok (.iconst 0, 1) := by decide +kernel
theorem d_P_joinImages_3 : decode b_P_joinImages 3 = .ok (.istore 4, 2) := by decide +kernel
theorem d_P_joinImages_5 : decode b_P_joinImages 5 = .ok (.iload_n 3, 1) := by decide +kernel
theorem d_P_joinImages_6 : decode b_P_joinImages 6 = .ok (.ifCond .eq 47, 3) := by decide +kernel
theorem d_P_joinImages_9 : decode b_P_joinImages 9 = .ok (.iload 4, 2) := by decide +kernel
theorem d_P_joinImages_11 : decode b_P_joinImages 11 = .ok (.aload_n 0, 1) := by decide +kernel
theorem d_P_joinImages_12 : decode b_P_joinImages 12 = .ok (.getfield 7, 3) := by decide +kernel
theorem d_P_joinImages_15 : decode b_P_joinImages 15 = .ok (.arraylength, 1) := by decide +kernel
theorem d_P_joinImages_16 : decode b_P_joinImages 16 = .ok (.if_icmp .ge 37, 3) := by decide +kernel
theorem d_P_joinImages_19 : decode b_P_joinImages 19 = .ok (.iconst 0, 1) := by decide +kernel
theorem d_P_joinImages_20 : decode b_P_joinImages 20 = .ok (.istore_n 3, 1) := by decide +kernel
theorem d_P_joinImages_21 : decode b_P_joinImages 21 = .ok (.iconst 0, 1) := by decide +kernel
theorem d_P_joinImages_22 : decode b_P_joinImages 22 = .ok (.istore 5, 2) := by decide +kernel
theorem d_P_joinImages_24 : decode b_P_joinImages 24 = .ok (.iload 5, 2) := by decide +kernel
theorem d_P_joinImages_26 : decode b_P_joinImages 26 = .ok (.iload_n 2, 1) := by decide +kernel
theorem d_P_joinImages_27 : decode b_P_joinImages 27 = .ok (.if_icmp .ge 20, 3) := by decide +kernel
theorem d_P_joinImages_30 : decode b_P_joinImages 30 = .ok (.iload_n 3, 1) := by decide +kernel
theorem d_P_joinImages_31 : decode b_P_joinImages 31 = .ok (.aload_n 0, 1) := by decide +kernel
theorem d_P_joinImages_32 : decode b_P_joinImages 32 = .ok (.aload_n 1, 1) := by decide +kernel
theorem d_P_joinImages_33 : decode b_P_joinImages 33 = .ok (.iload 5, 2) := by decide +kernel
theorem d_P_joinImages_35 : decode b_P_joinImages 35 = .ok (.aaload, 1) := by decide +kernel
theorem d_P_joinImages_36 : decode b_P_joinImages 36 = .ok (.invokevirtual 32, 3) := by decide +kernel
theorem d_P_joinImages_39 : decode b_P_joinImages 39 = .ok (.ior, 1) := by decide +kernel
theorem d_P_joinImages_40 : decode b_P_joinImages 40 = .ok (.istore_n 3, 1) := by decide +kernel
theorem d_P_joinImages_41 : decode b_P_joinImages 41 = .ok (.iinc 5 1, 3) := by decide +kernel
theorem d_P_joinImages_44 : decode b_P_joinImages 44 = .ok (.goto (-20), 3) := by decide +kernel
theorem d_P_joinImages_47 : decode b_P_joinImages 47 = .ok (.iinc 4 1, 3) := by decide +kernel
theorem d_P_joinImages_50 : decode b_P_joinImages 50 = .ok (.goto (-45), 3) := by decide +kernel
theorem d_P_joinImages_53 : decode b_P_joinImages 53 = .ok (.return_, 1) := by decide +kernel
theorem d_P_joinImagesOnce_0 : decode b_P_joinImagesOnce 0 = .ok (.iconst 0, 1) := by decide +kernel
theorem d_P_joinImagesOnce_1 : decode b_P_joinImagesOnce 1 = .ok (.istore_n 2, 1) := by decide +kernel
theorem d_P_joinImagesOnce_2 : decode b_P_joinImagesOnce 2 = .ok (.iconst 0, 1) := by decide +kernel
theorem d_P_joinImagesOnce_3 : decode b_P_joinImagesOnce 3 = .ok (.istore_n 3, 1) := by decide +kernel
theorem d_P_joinImagesOnce_4 : decode b_P_joinImagesOnce 4 = .ok (.iload_n 3, 1) := by decide +kernel
theorem d_P_joinImagesOnce_5 : decode b_P_joinImagesOnce 5 = .ok (.aload_n 0, 1) := by decide +kernel
theorem d_P_joinImagesOnce_6 : decode b_P_joinImagesOnce 6 = .ok (.getfield 7, 3) := by decide +kernel
theorem d_P_joinImagesOnce_9 : decode b_P_joinImagesOnce 9 = .ok (.arraylength, 1) := by decide +kernel
theorem d_P_joinImagesOnce_10 : decode b_P_joinImagesOnce 10 = .ok (.if_icmp .ge 27, 3) := by decide +kernel
theorem d_P_joinImagesOnce_13 : decode b_P_joinImagesOnce 13 = .ok (.iload_n 2, 1) := by decide +kernel
theorem d_P_joinImagesOnce_14 : decode b_P_joinImagesOnce 14 = .ok (.aload_n 0, 1) := by decide +kernel
theorem d_P_joinImagesOnce_15 : decode b_P_joinImagesOnce 15 = .ok (.aload_n 1, 1) := by decide +kernel
theorem d_P_joinImagesOnce_16 : decode b_P_joinImagesOnce 16 = .ok (.iload_n 3, 1) := by decide +kernel
theorem d_P_joinImagesOnce_17 : decode b_P_joinImagesOnce 17 = .ok (.iaload, 1) := by decide +kernel
theorem d_P_joinImagesOnce_18 : decode b_P_joinImagesOnce 18 = .ok (.aload_n 1, 1) := by decide +kernel
theorem d_P_joinImagesOnce_19 : decode b_P_joinImagesOnce 19 = .ok (.aload_n 0, 1) := by decide +kernel
theorem d_P_joinImagesOnce_20 : decode b_P_joinImagesOnce 20 = .ok (.getfield 7, 3) := by decide +kernel
theorem d_P_joinImagesOnce_23 : decode b_P_joinImagesOnce 23 = .ok (.iload_n 3, 1) := by decide +kernel
theorem d_P_joinImagesOnce_24 : decode b_P_joinImagesOnce 24 = .ok (.iaload, 1) := by decide +kernel
theorem d_P_joinImagesOnce_25 : decode b_P_joinImagesOnce 25 = .ok (.iaload, 1) := by decide +kernel
theorem d_P_joinImagesOnce_26 : decode b_P_joinImagesOnce 26 = .ok (.invokevirtual 28, 3) := by decide +kernel
theorem d_P_joinImagesOnce_29 : decode b_P_joinImagesOnce 29 = .ok (.ior, 1) := by decide +kernel
theorem d_P_joinImagesOnce_30 : decode b_P_joinImagesOnce 30 = .ok (.istore_n 2, 1) := by decide +kernel
theorem d_P_joinImagesOnce_31 : decode b_P_joinImagesOnce 31 = .ok (.iinc 3 1, 3) := by decide +kernel
theorem d_P_joinImagesOnce_34 : decode b_P_joinImagesOnce 34 = .ok (.goto (-30), 3) := by decide +kernel
theorem d_P_joinImagesOnce_37 : decode b_P_joinImagesOnce 37 = .ok (.iload_n 2, 1) := by decide +kernel
theorem d_P_joinImagesOnce_38 : decode b_P_joinImagesOnce 38 = .ok (.ireturn, 1) := by decide +kernel
theorem d_P_leastWith_0 : decode b_P_leastWith 0 = .ok (.aload_n 0, 1) := by decide +kernel
theorem d_P_leastWith_1 : decode b_P_leastWith 1 = .ok (.getfield 7, 3) := by decide +kernel
theorem d_P_leastWith_4 : decode b_P_leastWith 4 = .ok (.iload_n 1, 1) := by decide +kernel
theorem d_P_leastWith_5 : decode b_P_leastWith 5 = .ok (.iaload, 1) := by decide +kernel
theorem d_P_leastWith_6 : decode b_P_leastWith 6 = .ok (.ireturn, 1) := by decide +kernel
theorem d_P_sizeWith_0 : decode b_P_sizeWith 0 = .ok (.iconst 0, 1) := by decide +kernel
theorem d_P_sizeWith_1 : decode b_P_sizeWith 1 = .ok (.istore_n 2, 1) := by decide +kernel
theorem d_P_sizeWith_2 : decode b_P_sizeWith 2 = .ok (.iconst 0, 1) := by decide +kernel
theorem d_P_sizeWith_3 : decode b_P_sizeWith 3 = .ok (.istore_n 3, 1) := by decide +kernel
theorem d_P_sizeWith_4 : decode b_P_sizeWith 4 = .ok (.iload_n 3, 1) := by decide +kernel
theorem d_P_sizeWith_5 : decode b_P_sizeWith 5 = .ok (.aload_n 0, 1) := by decide +kernel
theorem d_P_sizeWith_6 : decode b_P_sizeWith 6 = .ok (.getfield 7, 3) := by decide +kernel
theorem d_P_sizeWith_9 : decode b_P_sizeWith 9 = .ok (.arraylength, 1) := by decide +kernel
theorem d_P_sizeWith_10 : decode b_P_sizeWith 10 = .ok (.if_icmp .ge 27, 3) := by decide +kernel
theorem d_P_sizeWith_13 : decode b_P_sizeWith 13 = .ok (.aload_n 0, 1) := by decide +kernel
theorem d_P_sizeWith_14 : decode b_P_sizeWith 14 = .ok (.getfield 7, 3) := by decide +kernel
theorem d_P_sizeWith_17 : decode b_P_sizeWith 17 = .ok (.iload_n 3, 1) := by decide +kernel
theorem d_P_sizeWith_18 : decode b_P_sizeWith 18 = .ok (.iaload, 1) := by decide +kernel
theorem d_P_sizeWith_19 : decode b_P_sizeWith 19 = .ok (.aload_n 0, 1) := by decide +kernel
theorem d_P_sizeWith_20 : decode b_P_sizeWith 20 = .ok (.getfield 7, 3) := by decide +kernel
theorem d_P_sizeWith_23 : decode b_P_sizeWith 23 = .ok (.iload_n 1, 1) := by decide +kernel
theorem d_P_sizeWith_24 : decode b_P_sizeWith 24 = .ok (.iaload, 1) := by decide +kernel
theorem d_P_sizeWith_25 : decode b_P_sizeWith 25 = .ok (.if_icmp .ne 6, 3) := by decide +kernel
theorem d_P_sizeWith_28 : decode b_P_sizeWith 28 = .ok (.iinc 2 1, 3) := by decide +kernel
theorem d_P_sizeWith_31 : decode b_P_sizeWith 31 = .ok (.iinc 3 1, 3) := by decide +kernel
theorem d_P_sizeWith_34 : decode b_P_sizeWith 34 = .ok (.goto (-30), 3) := by decide +kernel
theorem d_P_sizeWith_37 : decode b_P_sizeWith 37 = .ok (.iload_n 2, 1) := by decide +kernel
theorem d_P_sizeWith_38 : decode b_P_sizeWith 38 = .ok (.ireturn, 1) := by decide +kernel
theorem d_A_fill_0 : decode b_A_fill 0 = .ok (.iconst 0, 1) := by decide +kernel
theorem d_A_fill_1 : decode b_A_fill 1 = .ok (.istore_n 2, 1) := by decide +kernel
theorem d_A_fill_2 : decode b_A_fill 2 = .ok (.aload_n 0, 1) := by decide +kernel
theorem d_A_fill_3 : decode b_A_fill 3 = .ok (.arraylength, 1) := by decide +kernel
theorem d_A_fill_4 : decode b_A_fill 4 = .ok (.istore_n 3, 1) := by decide +kernel
theorem d_A_fill_5 : decode b_A_fill 5 = .ok (.iload_n 2, 1) := by decide +kernel
theorem d_A_fill_6 : decode b_A_fill 6 = .ok (.iload_n 3, 1) := by decide +kernel
theorem d_A_fill_7 : decode b_A_fill 7 = .ok (.if_icmp .ge 13, 3) := by decide +kernel
theorem d_A_fill_10 : decode b_A_fill 10 = .ok (.aload_n 0, 1) := by decide +kernel
theorem d_A_fill_11 : decode b_A_fill 11 = .ok (.iload_n 2, 1) := by decide +kernel
theorem d_A_fill_12 : decode b_A_fill 12 = .ok (.iload_n 1, 1) := by decide +kernel
theorem d_A_fill_13 : decode b_A_fill 13 = .ok (.iastore, 1) := by decide +kernel
theorem d_A_fill_14 : decode b_A_fill 14 = .ok (.iinc 2 1, 3) := by decide +kernel
theorem d_A_fill_17 : decode b_A_fill 17 = .ok (.goto (-12), 3) := by decide +kernel
theorem d_A_fill_20 : decode b_A_fill 20 = .ok (.return_, 1) := by decide +kernel
end
section
theorem d_M_init_0 : decode b_M_init 0 = .ok (.aload_n 0, 1) := by decide +kernel
theorem d_M_init_1 : decode b_M_init 1 = .ok (.invokespecial 1, 3) := by decide +kernel
theorem d_M_init_4 : decode b_M_init 4 = .ok (.aload_n 0, 1) := by decide +kernel
theorem d_M_init_5 : decode b_M_init 5 = .ok (.sipush 240, 3) := by decide +kernel
theorem d_M_init_8 : decode b_M_init 8 = .ok (.newarray .int, 2) := by decide +kernel
theorem d_M_init_10 : decode b_M_init 10 = .ok (.putfield 7, 3) := by decide +kernel
theorem d_M_init_13 : decode b_M_init 13 = .ok (.aload_n 0, 1) := by decide +kernel
theorem d_M_init_14 : decode b_M_init 14 = .ok (.sipush 480, 3) := by decide +kernel
theorem d_M_init_17 : decode b_M_init 17 = .ok (.newarray .int, 2) := by decide +kernel
theorem d_M_init_19 : decode b_M_init 19 = .ok (.putfield 13, 3) := by decide +kernel
theorem d_M_init_22 : decode b_M_init 22 = .ok (.aload_n 0, 1) := by decide +kernel
theorem d_M_init_23 : decode b_M_init 23 = .ok (.sipush 13824, 3) := by decide +kernel
theorem d_M_init_26 : decode b_M_init 26 = .ok (.newarray .int, 2) := by decide +kernel
theorem d_M_init_28 : decode b_M_init 28 = .ok (.putfield 16, 3) := by decide +kernel
theorem d_M_init_31 : decode b_M_init 31 = .ok (.aload_n 0, 1) := by decide +kernel
theorem d_M_init_32 : decode b_M_init 32 = .ok (.sipush 576, 3) := by decide +kernel
theorem d_M_init_35 : decode b_M_init 35 = .ok (.newarray .boolean, 2) := by decide +kernel
theorem d_M_init_37 : decode b_M_init 37 = .ok (.putfield 19, 3) := by decide +kernel
theorem d_M_init_40 : decode b_M_init 40 = .ok (.aload_n 0, 1) := by decide +kernel
theorem d_M_init_41 : decode b_M_init 41 = .ok (.sipush 576, 3) := by decide +kernel
theorem d_M_init_44 : decode b_M_init 44 = .ok (.newarray .int, 2) := by decide +kernel
theorem d_M_init_46 : decode b_M_init 46 = .ok (.putfield 23, 3) := by decide +kernel
theorem d_M_init_49 : decode b_M_init 49 = .ok (.aload_n 0, 1) := by decide +kernel
theorem d_M_init_50 : decode b_M_init 50 = .ok (.bipush 24, 2) := by decide +kernel
theorem d_M_init_52 : decode b_M_init 52 = .ok (.newarray .int, 2) := by decide +kernel
theorem d_M_init_54 : decode b_M_init 54 = .ok (.putfield 26, 3) := by decide +kernel
theorem d_M_init_57 : decode b_M_init 57 = .ok (.aload_n 0, 1) := by decide +kernel
theorem d_M_init_58 : decode b_M_init 58 = .ok (.bipush 24, 2) := by decide +kernel
theorem d_M_init_60 : decode b_M_init 60 = .ok (.newarray .int, 2) := by decide +kernel
theorem d_M_init_62 : decode b_M_init 62 = .ok (.putfield 29, 3) := by decide +kernel
theorem d_M_init_65 : decode b_M_init 65 = .ok (.aload_n 0, 1) := by decide +kernel
theorem d_M_init_66 : decode b_M_init 66 = .ok (.sipush 576, 3) := by decide +kernel
theorem d_M_init_69 : decode b_M_init 69 = .ok (.newarray .int, 2) := by decide +kernel
theorem d_M_init_71 : decode b_M_init 71 = .ok (.putfield 32, 3) := by decide +kernel
theorem d_M_init_74 : decode b_M_init 74 = .ok (.aload_n 0, 1) := by decide +kernel
theorem d_M_init_75 : decode b_M_init 75 = .ok (.bipush 24, 2) := by decide +kernel
theorem d_M_init_77 : decode b_M_init 77 = .ok (.newarray .boolean, 2) := by decide +kernel
theorem d_M_init_79 : decode b_M_init 79 = .ok (.putfield 35, 3) := by decide +kernel
theorem d_M_init_82 : decode b_M_init 82 = .ok (.aload_n 0, 1) := by decide +kernel
theorem d_M_init_83 : decode b_M_init 83 = .ok (.bipush 24, 2) := by decide +kernel
theorem d_M_init_85 : decode b_M_init 85 = .ok (.newarray .int, 2) := by decide +kernel
theorem d_M_init_87 : decode b_M_init 87 = .ok (.putfield 38, 3) := by decide +kernel
theorem d_M_init_90 : decode b_M_init 90 = .ok (.aload_n 0, 1) := by decide +kernel
theorem d_M_init_91 : decode b_M_init 91 = .ok (.bipush 24, 2) := by decide +kernel
theorem d_M_init_93 : decode b_M_init 93 = .ok (.newarray .int, 2) := by decide +kernel
theorem d_M_init_95 : decode b_M_init 95 = .ok (.putfield 41, 3) := by decide +kernel
theorem d_M_init_98 : decode b_M_init 98 = .ok (.aload_n 0, 1) := by decide +kernel
theorem d_M_init_99 : decode b_M_init 99 = .ok (.bipush 24, 2) := by decide +kernel
theorem d_M_init_101 : decode b_M_init 101 = .ok (.newarray .boolean, 2) := by decide +kernel
theorem d_M_init_103 : decode b_M_init 103 = .ok (.putfield 44, 3) := by decide +kernel
theorem d_M_init_106 : decode b_M_init 106 = .ok (.aload_n 0, 1) := by decide +kernel
theorem d_M_init_107 : decode b_M_init 107 = .ok (.bipush 24, 2) := by decide +kernel
theorem d_M_init_109 : decode b_M_init 109 = .ok (.newarray .int, 2) := by decide +kernel
theorem d_M_init_111 : decode b_M_init 111 = .ok (.putfield 47, 3) := by decide +kernel
theorem d_M_init_114 : decode b_M_init 114 = .ok (.aload_n 0, 1) := by decide +kernel
theorem d_M_init_115 : decode b_M_init 115 = .ok (.bipush 24, 2) := by decide +kernel
theorem d_M_init_117 : decode b_M_init 117 = .ok (.newarray .int, 2) := by decide +kernel
theorem d_M_init_119 : decode b_M_init 119 = .ok (.putfield 50, 3) := by decide +kernel
theorem d_M_init_122 : decode b_M_init 122 = .ok (.aload_n 0, 1) := by decide +kernel
theorem d_M_init_123 : decode b_M_init 123 = .ok (.bipush 24, 2) := by decide +kernel
theorem d_M_init_125 : decode b_M_init 125 = .ok (.newarray .int, 2) := by decide +kernel
theorem d_M_init_127 : decode b_M_init 127 = .ok (.putfield 53, 3) := by decide +kernel
theorem d_M_init_130 : decode b_M_init 130 = .ok (.aload_n 0, 1) := by decide +kernel
theorem d_M_init_131 : decode b_M_init 131 = .ok (.bipush 40, 2) := by decide +kernel
theorem d_M_init_133 : decode b_M_init 133 = .ok (.newarray .int, 2) := by decide +kernel
theorem d_M_init_135 : decode b_M_init 135 = .ok (.putfield 56, 3) := by decide +kernel
theorem d_M_init_138 : decode b_M_init 138 = .ok (.aload_n 0, 1) := by decide +kernel
theorem d_M_init_139 : decode b_M_init 139 = .ok (.bipush 24, 2) := by decide +kernel
theorem d_M_init_141 : decode b_M_init 141 = .ok (.newarray .int, 2) := by decide +kernel
theorem d_M_init_143 : decode b_M_init 143 = .ok (.putfield 59, 3) := by decide +kernel
theorem d_M_init_146 : decode b_M_init 146 = .ok (.aload_n 0, 1) := by decide +kernel
theorem d_M_init_147 : decode b_M_init 147 = .ok (.sipush 576, 3) := by decide +kernel
theorem d_M_init_150 : decode b_M_init 150 = .ok (.newarray .int, 2) := by decide +kernel
theorem d_M_init_152 : decode b_M_init 152 = .ok (.putfield 62, 3) := by decide +kernel
theorem d_M_init_155 : decode b_M_init 155 = .ok (.aload_n 0, 1) := by decide +kernel
theorem d_M_init_156 : decode b_M_init 156 = .ok (.iload_n 1, 1) := by decide +kernel
theorem d_M_init_157 : decode b_M_init 157 = .ok (.iconst 1, 1) := by decide +kernel
theorem d_M_init_158 : decode b_M_init 158 = .ok (.if_icmp .ge 7, 3) := by decide +kernel
theorem d_M_init_161 : decode b_M_init 161 = .ok (.iconst 1, 1) := by decide +kernel
theorem d_M_init_162 : decode b_M_init 162 = .ok (.goto 15, 3) := by decide +kernel
theorem d_M_init_165 : decode b_M_init 165 = .ok (.iload_n 1, 1) := by decide +kernel
theorem d_M_init_166 : decode b_M_init 166 = .ok (.bipush 24, 2) := by decide +kernel
theorem d_M_init_168 : decode b_M_init 168 = .ok (.if_icmp .le 8, 3) := by decide +kernel
theorem d_M_init_171 : decode b_M_init 171 = .ok (.bipush 24, 2) := by decide +kernel
theorem d_M_init_173 : decode b_M_init 173 = .ok (.goto 4, 3) := by decide +kernel
theorem d_M_init_176 : decode b_M_init 176 = .ok (.iload_n 1, 1) := by decide +kernel
theorem d_M_init_177 : decode b_M_init 177 = .ok (.putfield 65, 3) := by decide +kernel
theorem d_M_init_180 : decode b_M_init 180 = .ok (.return_, 1) := by decide +kernel
theorem d_M_isPlace_0 : decode b_M_isPlace 0 = .ok (.iload_n 1, 1) := by decide +kernel
theorem d_M_isPlace_1 : decode b_M_isPlace 1 = .ok (.ifCond .lt 15, 3) := by decide +kernel
theorem d_M_isPlace_4 : decode b_M_isPlace 4 = .ok (.iload_n 1, 1) := by decide +kernel
theorem d_M_isPlace_5 : decode b_M_isPlace 5 = .ok (.aload_n 0, 1) := by decide +kernel
theorem d_M_isPlace_6 : decode b_M_isPlace 6 = .ok (.getfield 65, 3) := by decide +kernel
theorem d_M_isPlace_9 : decode b_M_isPlace 9 = .ok (.if_icmp .ge 7, 3) := by decide +kernel
theorem d_M_isPlace_12 : decode b_M_isPlace 12 = .ok (.iconst 1, 1) := by decide +kernel
theorem d_M_isPlace_13 : decode b_M_isPlace 13 = .ok (.goto 4, 3) := by decide +kernel
theorem d_M_isPlace_16 : decode b_M_isPlace 16 = .ok (.iconst 0, 1) := by decide +kernel
theorem d_M_isPlace_17 : decode b_M_isPlace 17 = .ok (.ireturn, 1) := by decide +kernel
theorem d_M_isState_0 : decode b_M_isState 0 = .ok (.iload_n 1, 1) := by decide +kernel
theorem d_M_isState_1 : decode b_M_isState 1 = .ok (.ifCond .lt 15, 3) := by decide +kernel
theorem d_M_isState_4 : decode b_M_isState 4 = .ok (.iload_n 1, 1) := by decide +kernel
theorem d_M_isState_5 : decode b_M_isState 5 = .ok (.aload_n 0, 1) := by decide +kernel
theorem d_M_isState_6 : decode b_M_isState 6 = .ok (.getfield 72, 3) := by decide +kernel
theorem d_M_isState_9 : decode b_M_isState 9 = .ok (.if_icmp .ge 7, 3) := by decide +kernel
theorem d_M_isState_12 : decode b_M_isState 12 = .ok (.iconst 1, 1) := by decide +kernel
theorem d_M_isState_13 : decode b_M_isState 13 = .ok (.goto 4, 3) := by decide +kernel
theorem d_M_isState_16 : decode b_M_isState 16 = .ok (.iconst 0, 1) := by decide +kernel
theorem d_M_isState_17 : decode b_M_isState 17 = .ok (.ireturn, 1) := by decide +kernel
theorem d_M_move_0 : decode b_M_move 0 = .ok (.aload_n 0, 1) := by decide +kernel
theorem d_M_move_1 : decode b_M_move 1 = .ok (.iconst 0, 1) := by decide +kernel
theorem d_M_move_2 : decode b_M_move 2 = .ok (.putfield 69, 3) := by decide +kernel
theorem d_M_move_5 : decode b_M_move 5 = .ok (.aload_n 0, 1) := by decide +kernel
theorem d_M_move_6 : decode b_M_move 6 = .ok (.getfield 75, 3) := by decide +kernel
theorem d_M_move_9 : decode b_M_move 9 = .ok (.bipush 10, 2) := by decide +kernel
theorem d_M_move_11 : decode b_M_move 11 = .ok (.if_icmp .ne 5, 3) := by decide +kernel
theorem d_M_move_14 : decode b_M_move 14 = .ok (.iconst (-1), 1) := by decide +kernel
theorem d_M_move_15 : decode b_M_move 15 = .ok (.ireturn, 1) := by decide +kernel
theorem d_M_move_16 : decode b_M_move 16 = .ok (.iconst 0, 1) := by decide +kernel
theorem d_M_move_17 : decode b_M_move 17 = .ok (.istore_n 1, 1) := by decide +kernel
theorem d_M_move_18 : decode b_M_move 18 = .ok (.iload_n 1, 1) := by decide +kernel
theorem d_M_move_19 : decode b_M_move 19 = .ok (.bipush 24, 2) := by decide +kernel
theorem d_M_move_21 : decode b_M_move 21 = .ok (.if_icmp .ge 24, 3) := by decide +kernel
theorem d_M_move_24 : decode b_M_move 24 = .ok (.aload_n 0, 1) := by decide +kernel
theorem d_M_move_25 : decode b_M_move 25 = .ok (.getfield 7, 3) := by decide +kernel
theorem d_M_move_28 : decode b_M_move 28 = .ok (.bipush 24, 2) := by decide +kernel
theorem d_M_move_30 : decode b_M_move 30 = .ok (.aload_n 0, 1) := by decide +kernel
theorem d_M_move_31 : decode b_M_move 31 = .ok (.getfield 75, 3) := by decide +kernel
theorem d_M_move_34 : decode b_M_move 34 = .ok (.imul, 1) := by decide +kernel
theorem d_M_move_35 : decode b_M_move 35 = .ok (.iload_n 1, 1) := by decide +kernel
theorem d_M_move_36 : decode b_M_move 36 = .ok (.iadd, 1) := by decide +kernel
theorem d_M_move_37 : decode b_M_move 37 = .ok (.iload_n 1, 1) := by decide +kernel
theorem d_M_move_38 : decode b_M_move 38 = .ok (.iastore, 1) := by decide +kernel
theorem d_M_move_39 : decode b_M_move 39 = .ok (.iinc 1 1, 3) := by decide +kernel
theorem d_M_move_42 : decode b_M_move 42 = .ok (.goto (-24), 3) := by decide +kernel
theorem d_M_move_45 : decode b_M_move 45 = .ok (.aload_n 0, 1) := by decide +kernel
theorem d_M_move_46 : decode b_M_move 46 = .ok (.dup, 1) := by decide +kernel
theorem d_M_move_47 : decode b_M_move 47 = .ok (.getfield 75, 3) := by decide +kernel
theorem d_M_move_50 : decode b_M_move 50 = .ok (.iconst 1, 1) := by decide +kernel
theorem d_M_move_51 : decode b_M_move 51 = .ok (.iadd, 1) := by decide +kernel
theorem d_M_move_52 : decode b_M_move 52 = .ok (.putfield 75, 3) := by decide +kernel
theorem d_M_move_55 : decode b_M_move 55 = .ok (.aload_n 0, 1) := by decide +kernel
theorem d_M_move_56 : decode b_M_move 56 = .ok (.getfield 75, 3) := by decide +kernel
theorem d_M_move_59 : decode b_M_move 59 = .ok (.iconst 1, 1) := by decide +kernel
theorem d_M_move_60 : decode b_M_move 60 = .ok (.isub, 1) := by decide +kernel
theorem d_M_move_61 : decode b_M_move 61 = .ok (.ireturn, 1) := by decide +kernel
theorem d_M_cycle_0 : decode b_M_cycle 0 = .ok (.aload_n 0, 1) := by decide +kernel
theorem d_M_cycle_1 : decode b_M_cycle 1 = .ok (.iconst 0, 1) := by decide +kernel
theorem d_M_cycle_2 : decode b_M_cycle 2 = .ok (.putfield 69, 3) := by decide +kernel
theorem d_M_cycle_5 : decode b_M_cycle 5 = .ok (.iload_n 1, 1) := by decide +kernel
theorem d_M_cycle_6 : decode b_M_cycle 6 = .ok (.ifCond .lt 47, 3) := by decide +kernel
theorem d_M_cycle_9 : decode b_M_cycle 9 = .ok (.iload_n 1, 1) := by decide +kernel
theorem d_M_cycle_10 : decode b_M_cycle 10 = .ok (.aload_n 0, 1) := by decide +kernel
theorem d_M_cycle_11 : decode b_M_cycle 11 = .ok (.getfield 75, 3) := by decide +kernel
theorem d_M_cycle_14 : decode b_M_cycle 14 = .ok (.if_icmp .ge 39, 3) := by decide +kernel
theorem d_M_cycle_17 : decode b_M_cycle 17 = .ok (.aload_n 0, 1) := by decide +kernel
theorem d_M_cycle_18 : decode b_M_cycle 18 = .ok (.iload_n 2, 1) := by decide +kernel
theorem d_M_cycle_19 : decode b_M_cycle 19 = .ok (.invokevirtual 78, 3) := by decide +kernel
theorem d_M_cycle_22 : decode b_M_cycle 22 = .ok (.ifCond .eq 31, 3) := by decide +kernel
theorem d_M_cycle_25 : decode b_M_cycle 25 = .ok (.aload_n 0, 1) := by decide +kernel
theorem d_M_cycle_26 : decode b_M_cycle 26 = .ok (.iload_n 3, 1) := by decide +kernel
theorem d_M_cycle_27 : decode b_M_cycle 27 = .ok (.invokevirtual 78, 3) := by decide +kernel
theorem d_M_cycle_30 : decode b_M_cycle 30 = .ok (.ifCond .eq 23, 3) := by decide +kernel
theorem d_M_cycle_33 : decode b_M_cycle 33 = .ok (.iload_n 2, 1) := by decide +kernel
theorem d_M_cycle_34 : decode b_M_cycle 34 = .ok (.iload_n 3, 1) := by decide +kernel
theorem d_M_cycle_35 : decode b_M_cycle 35 = .ok (.if_icmp .eq 18, 3) := by decide +kernel
theorem d_M_cycle_38 : decode b_M_cycle 38 = .ok (.aload_n 0, 1) := by decide +kernel
theorem d_M_cycle_39 : decode b_M_cycle 39 = .ok (.getfield 7, 3) := by decide +kernel
theorem d_M_cycle_42 : decode b_M_cycle 42 = .ok (.bipush 24, 2) := by decide +kernel
theorem d_M_cycle_44 : decode b_M_cycle 44 = .ok (.iload_n 1, 1) := by decide +kernel
theorem d_M_cycle_45 : decode b_M_cycle 45 = .ok (.imul, 1) := by decide +kernel
theorem d_M_cycle_46 : decode b_M_cycle 46 = .ok (.iload_n 3, 1) := by decide +kernel
theorem d_M_cycle_47 : decode b_M_cycle 47 = .ok (.iadd, 1) := by decide +kernel
theorem d_M_cycle_48 : decode b_M_cycle 48 = .ok (.iaload, 1) := by decide +kernel
theorem d_M_cycle_49 : decode b_M_cycle 49 = .ok (.iload_n 3, 1) := by decide +kernel
theorem d_M_cycle_50 : decode b_M_cycle 50 = .ok (.if_icmp .eq 5, 3) := by decide +kernel
theorem d_M_cycle_53 : decode b_M_cycle 53 = .ok (.iconst 0, 1) := by decide +kernel
theorem d_M_cycle_54 : decode b_M_cycle 54 = .ok (.ireturn, 1) := by decide +kernel
theorem d_M_cycle_55 : decode b_M_cycle 55 = .ok (.aload_n 0, 1) := by decide +kernel
theorem d_M_cycle_56 : decode b_M_cycle 56 = .ok (.getfield 7, 3) := by decide +kernel
theorem d_M_cycle_59 : decode b_M_cycle 59 = .ok (.bipush 24, 2) := by decide +kernel
theorem d_M_cycle_61 : decode b_M_cycle 61 = .ok (.iload_n 1, 1) := by decide +kernel
theorem d_M_cycle_62 : decode b_M_cycle 62 = .ok (.imul, 1) := by decide +kernel
theorem d_M_cycle_63 : decode b_M_cycle 63 = .ok (.iload_n 3, 1) := by decide +kernel
theorem d_M_cycle_64 : decode b_M_cycle 64 = .ok (.iadd, 1) := by decide +kernel
theorem d_M_cycle_65 : decode b_M_cycle 65 = .ok (.aload_n 0, 1) := by decide +kernel
theorem d_M_cycle_66 : decode b_M_cycle 66 = .ok (.getfield 7, 3) := by decide +kernel
theorem d_M_cycle_69 : decode b_M_cycle 69 = .ok (.bipush 24, 2) := by decide +kernel
theorem d_M_cycle_71 : decode b_M_cycle 71 = .ok (.iload_n 1, 1) := by decide +kernel
theorem d_M_cycle_72 : decode b_M_cycle 72 = .ok (.imul, 1) := by decide +kernel
theorem d_M_cycle_73 : decode b_M_cycle 73 = .ok (.iload_n 2, 1) := by decide +kernel
theorem d_M_cycle_74 : decode b_M_cycle 74 = .ok (.iadd, 1) := by decide +kernel
theorem d_M_cycle_75 : decode b_M_cycle 75 = .ok (.iaload, 1) := by decide +kernel
theorem d_M_cycle_76 : decode b_M_cycle 76 = .ok (.iastore, 1) := by decide +kernel
theorem d_M_cycle_77 : decode b_M_cycle 77 = .ok (.aload_n 0, 1) := by decide +kernel
theorem d_M_cycle_78 : decode b_M_cycle 78 = .ok (.getfield 7, 3) := by decide +kernel
theorem d_M_cycle_81 : decode b_M_cycle 81 = .ok (.bipush 24, 2) := by decide +kernel
theorem d_M_cycle_83 : decode b_M_cycle 83 = .ok (.iload_n 1, 1) := by decide +kernel
theorem d_M_cycle_84 : decode b_M_cycle 84 = .ok (.imul, 1) := by decide +kernel
theorem d_M_cycle_85 : decode b_M_cycle 85 = .ok (.iload_n 2, 1) := by decide +kernel
theorem d_M_cycle_86 : decode b_M_cycle 86 = .ok (.iadd, 1) := by decide +kernel
theorem d_M_cycle_87 : decode b_M_cycle 87 = .ok (.iload_n 3, 1) := by decide +kernel
theorem d_M_cycle_88 : decode b_M_cycle 88 = .ok (.iastore, 1) := by decide +kernel
theorem d_M_cycle_89 : decode b_M_cycle 89 = .ok (.aload_n 0, 1) := by decide +kernel
theorem d_M_cycle_90 : decode b_M_cycle 90 = .ok (.iconst 0, 1) := by decide +kernel
theorem d_M_cycle_91 : decode b_M_cycle 91 = .ok (.putfield 82, 3) := by decide +kernel
theorem d_M_cycle_94 : decode b_M_cycle 94 = .ok (.iconst 1, 1) := by decide +kernel
theorem d_M_cycle_95 : decode b_M_cycle 95 = .ok (.ireturn, 1) := by decide +kernel
theorem d_M_state_0 : decode b_M_state 0 = .ok (.aload_n 0, 1) := by decide +kernel
theorem d_M_state_1 : decode b_M_state 1 = .ok (.iconst 0, 1) := by decide +kernel
theorem d_M_state_2 : decode b_M_state 2 = .ok (.putfield 69, 3) := by decide +kernel
theorem d_M_state_5 : decode b_M_state 5 = .ok (.aload_n 0, 1) := by decide +kernel
theorem d_M_state_6 : decode b_M_state 6 = .ok (.getfield 72, 3) := by decide +kernel
theorem d_M_state_9 : decode b_M_state 9 = .ok (.bipush 20, 2) := by decide +kernel
theorem d_M_state_11 : decode b_M_state 11 = .ok (.if_icmp .ne 5, 3) := by decide +kernel
theorem d_M_state_14 : decode b_M_state 14 = .ok (.iconst (-1), 1) := by decide +kernel
theorem d_M_state_15 : decode b_M_state 15 = .ok (.ireturn, 1) := by decide +kernel
theorem d_M_state_16 : decode b_M_state 16 = .ok (.iconst 0, 1) := by decide +kernel
theorem d_M_state_17 : decode b_M_state 17 = .ok (.istore_n 1, 1) := by decide +kernel
theorem d_M_state_18 : decode b_M_state 18 = .ok (.iload_n 1, 1) := by decide +kernel
theorem d_M_state_19 : decode b_M_state 19 = .ok (.bipush 24, 2) := by decide +kernel
theorem d_M_state_21 : decode b_M_state 21 = .ok (.if_icmp .ge 24, 3) := by decide +kernel
theorem d_M_state_24 : decode b_M_state 24 = .ok (.aload_n 0, 1) := by decide +kernel
theorem d_M_state_25 : decode b_M_state 25 = .ok (.getfield 13, 3) := by decide +kernel
theorem d_M_state_28 : decode b_M_state 28 = .ok (.bipush 24, 2) := by decide +kernel
theorem d_M_state_30 : decode b_M_state 30 = .ok (.aload_n 0, 1) := by decide +kernel
theorem d_M_state_31 : decode b_M_state 31 = .ok (.getfield 72, 3) := by decide +kernel
theorem d_M_state_34 : decode b_M_state 34 = .ok (.imul, 1) := by decide +kernel
theorem d_M_state_35 : decode b_M_state 35 = .ok (.iload_n 1, 1) := by decide +kernel
theorem d_M_state_36 : decode b_M_state 36 = .ok (.iadd, 1) := by decide +kernel
theorem d_M_state_37 : decode b_M_state 37 = .ok (.iload_n 1, 1) := by decide +kernel
theorem d_M_state_38 : decode b_M_state 38 = .ok (.iastore, 1) := by decide +kernel
theorem d_M_state_39 : decode b_M_state 39 = .ok (.iinc 1 1, 3) := by decide +kernel
theorem d_M_state_42 : decode b_M_state 42 = .ok (.goto (-24), 3) := by decide +kernel
theorem d_M_state_45 : decode b_M_state 45 = .ok (.aload_n 0, 1) := by decide +kernel
theorem d_M_state_46 : decode b_M_state 46 = .ok (.dup, 1) := by decide +kernel
theorem d_M_state_47 : decode b_M_state 47 = .ok (.getfield 72, 3) := by decide +kernel
theorem d_M_state_50 : decode b_M_state 50 = .ok (.iconst 1, 1) := by decide +kernel
theorem d_M_state_51 : decode b_M_state 51 = .ok (.iadd, 1) := by decide +kernel
theorem d_M_state_52 : decode b_M_state 52 = .ok (.putfield 72, 3) := by decide +kernel
theorem d_M_state_55 : decode b_M_state 55 = .ok (.aload_n 0, 1) := by decide +kernel
theorem d_M_state_56 : decode b_M_state 56 = .ok (.getfield 72, 3) := by decide +kernel
theorem d_M_state_59 : decode b_M_state 59 = .ok (.iconst 1, 1) := by decide +kernel
theorem d_M_state_60 : decode b_M_state 60 = .ok (.isub, 1) := by decide +kernel
theorem d_M_state_61 : decode b_M_state 61 = .ok (.ireturn, 1) := by decide +kernel
theorem d_M_applyMove_0 : decode b_M_applyMove 0 = .ok (.iconst 0, 1) := by decide +kernel
theorem d_M_applyMove_1 : decode b_M_applyMove 1 = .ok (.istore_n 3, 1) := by decide +kernel
theorem d_M_applyMove_2 : decode b_M_applyMove 2 = .ok (.iload_n 3, 1) := by decide +kernel
theorem d_M_applyMove_3 : decode b_M_applyMove 3 = .ok (.aload_n 0, 1) := by decide +kernel
theorem d_M_applyMove_4 : decode b_M_applyMove 4 = .ok (.getfield 65, 3) := by decide +kernel
theorem d_M_applyMove_7 : decode b_M_applyMove 7 = .ok (.if_icmp .ge 41, 3) := by decide +kernel
theorem d_M_applyMove_10 : decode b_M_applyMove 10 = .ok (.aload_n 0, 1) := by decide +kernel
theorem d_M_applyMove_11 : decode b_M_applyMove 11 = .ok (.getfield 13, 3) := by decide +kernel
theorem d_M_applyMove_14 : decode b_M_applyMove 14 = .ok (.bipush 24, 2) := by decide +kernel
theorem d_M_applyMove_16 : decode b_M_applyMove 16 = .ok (.iload_n 1, 1) := by decide +kernel
theorem d_M_applyMove_17 : decode b_M_applyMove 17 = .ok (.imul, 1) := by decide +kernel
theorem d_M_applyMove_18 : decode b_M_applyMove 18 = .ok (.iload_n 3, 1) := by decide +kernel
theorem d_M_applyMove_19 : decode b_M_applyMove 19 = .ok (.iadd, 1) := by decide +kernel
theorem d_M_applyMove_20 : decode b_M_applyMove 20 = .ok (.aload_n 0, 1) := by decide +kernel
theorem d_M_applyMove_21 : decode b_M_applyMove 21 = .ok (.getfield 7, 3) := by decide +kernel
theorem d_M_applyMove_24 : decode b_M_applyMove 24 = .ok (.bipush 24, 2) := by decide +kernel
theorem d_M_applyMove_26 : decode b_M_applyMove 26 = .ok (.iload_n 2, 1) := by decide +kernel
theorem d_M_applyMove_27 : decode b_M_applyMove 27 = .ok (.imul, 1) := by decide +kernel
theorem d_M_applyMove_28 : decode b_M_applyMove 28 = .ok (.aload_n 0, 1) := by decide +kernel
theorem d_M_applyMove_29 : decode b_M_applyMove 29 = .ok (.getfield 13, 3) := by decide +kernel
theorem d_M_applyMove_32 : decode b_M_applyMove 32 = .ok (.bipush 24, 2) := by decide +kernel
theorem d_M_applyMove_34 : decode b_M_applyMove 34 = .ok (.iload_n 1, 1) := by decide +kernel
theorem d_M_applyMove_35 : decode b_M_applyMove 35 = .ok (.imul, 1) := by decide +kernel
theorem d_M_applyMove_36 : decode b_M_applyMove 36 = .ok (.iload_n 3, 1) := by decide +kernel
theorem d_M_applyMove_37 : decode b_M_applyMove 37 = .ok (.iadd, 1) := by decide +kernel
theorem d_M_applyMove_38 : decode b_M_applyMove 38 = .ok (.iaload, 1) := by decide +kernel
theorem d_M_applyMove_39 : decode b_M_applyMove 39 = .ok (.iadd, 1) := by decide +kernel
theorem d_M_applyMove_40 : decode b_M_applyMove 40 = .ok (.iaload, 1) := by decide +kernel
theorem d_M_applyMove_41 : decode b_M_applyMove 41 = .ok (.iastore, 1) := by decide +kernel
theorem d_M_applyMove_42 : decode b_M_applyMove 42 = .ok (.iinc 3 1, 3) := by decide +kernel
theorem d_M_applyMove_45 : decode b_M_applyMove 45 = .ok (.goto (-43), 3) := by decide +kernel
theorem d_M_applyMove_48 : decode b_M_applyMove 48 = .ok (.return_, 1) := by decide +kernel
theorem d_M_apply_0 : decode b_M_apply 0 = .ok (.aload_n 0, 1) := by decide +kernel
theorem d_M_apply_1 : decode b_M_apply 1 = .ok (.iconst 0, 1) := by decide +kernel
theorem d_M_apply_2 : decode b_M_apply 2 = .ok (.putfield 69, 3) := by decide +kernel
theorem d_M_apply_5 : decode b_M_apply 5 = .ok (.aload_n 0, 1) := by decide +kernel
theorem d_M_apply_6 : decode b_M_apply 6 = .ok (.iload_n 1, 1) := by decide +kernel
theorem d_M_apply_7 : decode b_M_apply 7 = .ok (.invokevirtual 86, 3) := by decide +kernel
theorem d_M_apply_10 : decode b_M_apply 10 = .ok (.ifCond .eq 15, 3) := by decide +kernel
theorem d_M_apply_13 : decode b_M_apply 13 = .ok (.iload_n 2, 1) := by decide +kernel
theorem d_M_apply_14 : decode b_M_apply 14 = .ok (.ifCond .lt 11, 3) := by decide +kernel
theorem d_M_apply_17 : decode b_M_apply 17 = .ok (.iload_n 2, 1) := by decide +kernel
theorem d_M_apply_18 : decode b_M_apply 18 = .ok (.aload_n 0, 1) := by decide +kernel
theorem d_M_apply_19 : decode b_M_apply 19 = .ok (.getfield 75, 3) := by decide +kernel
theorem d_M_apply_22 : decode b_M_apply 22 = .ok (.if_icmp .lt 5, 3) := by decide +kernel
theorem d_M_apply_25 : decode b_M_apply 25 = .ok (.iconst 0, 1) := by decide +kernel
theorem d_M_apply_26 : decode b_M_apply 26 = .ok (.ireturn, 1) := by decide +kernel
theorem d_M_apply_27 : decode b_M_apply 27 = .ok (.aload_n 0, 1) := by decide +kernel
theorem d_M_apply_28 : decode b_M_apply 28 = .ok (.iload_n 1, 1) := by decide +kernel
theorem d_M_apply_29 : decode b_M_apply 29 = .ok (.iload_n 2, 1) := by decide +kernel
theorem d_M_apply_30 : decode b_M_apply 30 = .ok (.invokevirtual 89, 3) := by decide +kernel
theorem d_M_apply_33 : decode b_M_apply 33 = .ok (.iconst 1, 1) := by decide +kernel
theorem d_M_apply_34 : decode b_M_apply 34 = .ok (.ireturn, 1) := by decide +kernel
theorem d_M_exchange_0 : decode b_M_exchange 0 = .ok (.aload_n 0, 1) := by decide +kernel
theorem d_M_exchange_1 : decode b_M_exchange 1 = .ok (.iconst 0, 1) := by decide +kernel
theorem d_M_exchange_2 : decode b_M_exchange 2 = .ok (.putfield 69, 3) := by decide +kernel
theorem d_M_exchange_5 : decode b_M_exchange 5 = .ok (.aload_n 0, 1) := by decide +kernel
theorem d_M_exchange_6 : decode b_M_exchange 6 = .ok (.iload_n 1, 1) := by decide +kernel
theorem d_M_exchange_7 : decode b_M_exchange 7 = .ok (.invokevirtual 86, 3) := by decide +kernel
theorem d_M_exchange_10 : decode b_M_exchange 10 = .ok (.ifCond .eq 24, 3) := by decide +kernel
theorem d_M_exchange_13 : decode b_M_exchange 13 = .ok (.aload_n 0, 1) := by decide +kernel
theorem d_M_exchange_14 : decode b_M_exchange 14 = .ok (.iload_n 2, 1) := by decide +kernel
theorem d_M_exchange_15 : decode b_M_exchange 15 = .ok (.invokevirtual 78, 3) := by decide +kernel
theorem d_M_exchange_18 : decode b_M_exchange 18 = .ok (.ifCond .eq 16, 3) := by decide +kernel
theorem d_M_exchange_21 : decode b_M_exchange 21 = .ok (.aload_n 0, 1) := by decide +kernel
theorem d_M_exchange_22 : decode b_M_exchange 22 = .ok (.iload_n 3, 1) := by decide +kernel
theorem d_M_exchange_23 : decode b_M_exchange 23 = .ok (.invokevirtual 78, 3) := by decide +kernel
theorem d_M_exchange_26 : decode b_M_exchange 26 = .ok (.ifCond .eq 8, 3) := by decide +kernel
theorem d_M_exchange_29 : decode b_M_exchange 29 = .ok (.iload_n 2, 1) := by decide +kernel
theorem d_M_exchange_30 : decode b_M_exchange 30 = .ok (.iload_n 3, 1) := by decide +kernel
theorem d_M_exchange_31 : decode b_M_exchange 31 = .ok (.if_icmp .ne 5, 3) := by decide +kernel
theorem d_M_exchange_34 : decode b_M_exchange 34 = .ok (.iconst 0, 1) := by decide +kernel
theorem d_M_exchange_35 : decode b_M_exchange 35 = .ok (.ireturn, 1) := by decide +kernel
theorem d_M_exchange_36 : decode b_M_exchange 36 = .ok (.iconst 0, 1) := by decide +kernel
theorem d_M_exchange_37 : decode b_M_exchange 37 = .ok (.istore 4, 2) := by decide +kernel
theorem d_M_exchange_39 : decode b_M_exchange 39 = .ok (.iload 4, 2) := by decide +kernel
theorem d_M_exchange_41 : decode b_M_exchange 41 = .ok (.aload_n 0, 1) := by decide +kernel
theorem d_M_exchange_42 : decode b_M_exchange 42 = .ok (.getfield 65, 3) := by decide +kernel
theorem d_M_exchange_45 : decode b_M_exchange 45 = .ok (.if_icmp .ge 57, 3) := by decide +kernel
theorem d_M_exchange_48 : decode b_M_exchange 48 = .ok (.aload_n 0, 1) := by decide +kernel
theorem d_M_exchange_49 : decode b_M_exchange 49 = .ok (.getfield 13, 3) := by decide +kernel
theorem d_M_exchange_52 : decode b_M_exchange 52 = .ok (.bipush 24, 2) := by decide +kernel
theorem d_M_exchange_54 : decode b_M_exchange 54 = .ok (.iload_n 1, 1) := by decide +kernel
theorem d_M_exchange_55 : decode b_M_exchange 55 = .ok (.imul, 1) := by decide +kernel
theorem d_M_exchange_56 : decode b_M_exchange 56 = .ok (.iload 4, 2) := by decide +kernel
theorem d_M_exchange_58 : decode b_M_exchange 58 = .ok (.iadd, 1) := by decide +kernel
theorem d_M_exchange_59 : decode b_M_exchange 59 = .ok (.iaload, 1) := by decide +kernel
theorem d_M_exchange_60 : decode b_M_exchange 60 = .ok (.istore 5, 2) := by decide +kernel
theorem d_M_exchange_62 : decode b_M_exchange 62 = .ok (.aload_n 0, 1) := by decide +kernel
theorem d_M_exchange_63 : decode b_M_exchange 63 = .ok (.getfield 13, 3) := by decide +kernel
theorem d_M_exchange_66 : decode b_M_exchange 66 = .ok (.bipush 24, 2) := by decide +kernel
theorem d_M_exchange_68 : decode b_M_exchange 68 = .ok (.iload_n 1, 1) := by decide +kernel
theorem d_M_exchange_69 : decode b_M_exchange 69 = .ok (.imul, 1) := by decide +kernel
theorem d_M_exchange_70 : decode b_M_exchange 70 = .ok (.iload 4, 2) := by decide +kernel
theorem d_M_exchange_72 : decode b_M_exchange 72 = .ok (.iadd, 1) := by decide +kernel
theorem d_M_exchange_73 : decode b_M_exchange 73 = .ok (.iload 5, 2) := by decide +kernel
theorem d_M_exchange_75 : decode b_M_exchange 75 = .ok (.iload_n 2, 1) := by decide +kernel
theorem d_M_exchange_76 : decode b_M_exchange 76 = .ok (.if_icmp .ne 7, 3) := by decide +kernel
theorem d_M_exchange_79 : decode b_M_exchange 79 = .ok (.iload_n 3, 1) := by decide +kernel
theorem d_M_exchange_80 : decode b_M_exchange 80 = .ok (.goto 15, 3) := by decide +kernel
theorem d_M_exchange_83 : decode b_M_exchange 83 = .ok (.iload 5, 2) := by decide +kernel
theorem d_M_exchange_85 : decode b_M_exchange 85 = .ok (.iload_n 3, 1) := by decide +kernel
theorem d_M_exchange_86 : decode b_M_exchange 86 = .ok (.if_icmp .ne 7, 3) := by decide +kernel
theorem d_M_exchange_89 : decode b_M_exchange 89 = .ok (.iload_n 2, 1) := by decide +kernel
theorem d_M_exchange_90 : decode b_M_exchange 90 = .ok (.goto 5, 3) := by decide +kernel
theorem d_M_exchange_93 : decode b_M_exchange 93 = .ok (.iload 5, 2) := by decide +kernel
theorem d_M_exchange_95 : decode b_M_exchange 95 = .ok (.iastore, 1) := by decide +kernel
theorem d_M_exchange_96 : decode b_M_exchange 96 = .ok (.iinc 4 1, 3) := by decide +kernel
theorem d_M_exchange_99 : decode b_M_exchange 99 = .ok (.goto (-60), 3) := by decide +kernel
theorem d_M_exchange_102 : decode b_M_exchange 102 = .ok (.iconst 1, 1) := by decide +kernel
theorem d_M_exchange_103 : decode b_M_exchange 103 = .ok (.ireturn, 1) := by decide +kernel
theorem d_M_scramble_0 : decode b_M_scramble 0 = .ok (.aload_n 0, 1) := by decide +kernel
theorem d_M_scramble_1 : decode b_M_scramble 1 = .ok (.iconst 0, 1) := by decide +kernel
theorem d_M_scramble_2 : decode b_M_scramble 2 = .ok (.putfield 69, 3) := by decide +kernel
theorem d_M_scramble_5 : decode b_M_scramble 5 = .ok (.aload_n 0, 1) := by decide +kernel
theorem d_M_scramble_6 : decode b_M_scramble 6 = .ok (.iload_n 1, 1) := by decide +kernel
theorem d_M_scramble_7 : decode b_M_scramble 7 = .ok (.invokevirtual 86, 3) := by decide +kernel
theorem d_M_scramble_10 : decode b_M_scramble 10 = .ok (.ifCond .eq 23, 3) := by decide +kernel
theorem d_M_scramble_13 : decode b_M_scramble 13 = .ok (.aload_n 0, 1) := by decide +kernel
theorem d_M_scramble_14 : decode b_M_scramble 14 = .ok (.getfield 75, 3) := by decide +kernel
theorem d_M_scramble_17 : decode b_M_scramble 17 = .ok (.ifCond .eq 16, 3) := by decide +kernel
theorem d_M_scramble_20 : decode b_M_scramble 20 = .ok (.iload 4, 2) := by decide +kernel
theorem d_M_scramble_22 : decode b_M_scramble 22 = .ok (.ifCond .lt 11, 3) := by decide +kernel
theorem d_M_scramble_25 : decode b_M_scramble 25 = .ok (.iload 4, 2) := by decide +kernel
theorem d_M_scramble_27 : decode b_M_scramble 27 = .ok (.sipush 1000, 3) := by decide +kernel
theorem d_M_scramble_30 : decode b_M_scramble 30 = .ok (.if_icmp .le 5, 3) := by decide +kernel
theorem d_M_scramble_33 : decode b_M_scramble 33 = .ok (.iconst 0, 1) := by decide +kernel
theorem d_M_scramble_34 : decode b_M_scramble 34 = .ok (.ireturn, 1) := by decide +kernel
theorem d_M_scramble_35 : decode b_M_scramble 35 = .ok (.lload_n 2, 1) := by decide +kernel
theorem d_M_scramble_36 : decode b_M_scramble 36 = .ok (.lstore 5, 2) := by decide +kernel
theorem d_M_scramble_38 : decode b_M_scramble 38 = .ok (.iconst 0, 1) := by decide +kernel
theorem d_M_scramble_39 : decode b_M_scramble 39 = .ok (.istore 7, 2) := by decide +kernel
theorem d_M_scramble_41 : decode b_M_scramble 41 = .ok (.iload 7, 2) := by decide +kernel
theorem d_M_scramble_43 : decode b_M_scramble 43 = .ok (.iload 4, 2) := by decide +kernel
theorem d_M_scramble_45 : decode b_M_scramble 45 = .ok (.if_icmp .ge 38, 3) := by decide +kernel
theorem d_M_scramble_48 : decode b_M_scramble 48 = .ok (.ldc2_w 93, 3) := by decide +kernel
theorem d_M_scramble_51 : decode b_M_scramble 51 = .ok (.lload 5, 2) := by decide +kernel
theorem d_M_scramble_53 : decode b_M_scramble 53 = .ok (.lmul, 1) := by decide +kernel
theorem d_M_scramble_54 : decode b_M_scramble 54 = .ok (.ldc2_w 95, 3) := by decide +kernel
theorem d_M_scramble_57 : decode b_M_scramble 57 = .ok (.ladd, 1) := by decide +kernel
theorem d_M_scramble_58 : decode b_M_scramble 58 = .ok (.lstore 5, 2) := by decide +kernel
theorem d_M_scramble_60 : decode b_M_scramble 60 = .ok (.aload_n 0, 1) := by decide +kernel
theorem d_M_scramble_61 : decode b_M_scramble 61 = .ok (.iload_n 1, 1) := by decide +kernel
theorem d_M_scramble_62 : decode b_M_scramble 62 = .ok (.lload 5, 2) := by decide +kernel
theorem d_M_scramble_64 : decode b_M_scramble 64 = .ok (.bipush 33, 2) := by decide +kernel
theorem d_M_scramble_66 : decode b_M_scramble 66 = .ok (.lushr, 1) := by decide +kernel
theorem d_M_scramble_67 : decode b_M_scramble 67 = .ok (.aload_n 0, 1) := by decide +kernel
theorem d_M_scramble_68 : decode b_M_scramble 68 = .ok (.getfield 75, 3) := by decide +kernel
theorem d_M_scramble_71 : decode b_M_scramble 71 = .ok (.i2l, 1) := by decide +kernel
theorem d_M_scramble_72 : decode b_M_scramble 72 = .ok (.lrem, 1) := by decide +kernel
theorem d_M_scramble_73 : decode b_M_scramble 73 = .ok (.l2i, 1) := by decide +kernel
theorem d_M_scramble_74 : decode b_M_scramble 74 = .ok (.invokevirtual 89, 3) := by decide +kernel
theorem d_M_scramble_77 : decode b_M_scramble 77 = .ok (.iinc 7 1, 3) := by decide +kernel
theorem d_M_scramble_80 : decode b_M_scramble 80 = .ok (.goto (-39), 3) := by decide +kernel
theorem d_M_scramble_83 : decode b_M_scramble 83 = .ok (.iconst 1, 1) := by decide +kernel
theorem d_M_scramble_84 : decode b_M_scramble 84 = .ok (.ireturn, 1) := by decide +kernel
theorem d_M_image_0 : decode b_M_image 0 = .ok (.aload_n 0, 1) := by decide +kernel
theorem d_M_image_1 : decode b_M_image 1 = .ok (.iconst 0, 1) := by decide +kernel
theorem d_M_image_2 : decode b_M_image 2 = .ok (.putfield 69, 3) := by decide +kernel
theorem d_M_image_5 : decode b_M_image 5 = .ok (.aload_n 0, 1) := by decide +kernel
theorem d_M_image_6 : decode b_M_image 6 = .ok (.iload_n 1, 1) := by decide +kernel
theorem d_M_image_7 : decode b_M_image 7 = .ok (.invokevirtual 86, 3) := by decide +kernel
theorem d_M_image_10 : decode b_M_image 10 = .ok (.ifCond .eq 25, 3) := by decide +kernel
theorem d_M_image_13 : decode b_M_image 13 = .ok (.aload_n 0, 1) := by decide +kernel
theorem d_M_image_14 : decode b_M_image 14 = .ok (.iload_n 2, 1) := by decide +kernel
theorem d_M_image_15 : decode b_M_image 15 = .ok (.invokevirtual 78, 3) := by decide +kernel
theorem d_M_image_18 : decode b_M_image 18 = .ok (.ifCond .eq 17, 3) := by decide +kernel
theorem d_M_image_21 : decode b_M_image 21 = .ok (.aload_n 0, 1) := by decide +kernel
theorem d_M_image_22 : decode b_M_image 22 = .ok (.getfield 13, 3) := by decide +kernel
theorem d_M_image_25 : decode b_M_image 25 = .ok (.bipush 24, 2) := by decide +kernel
theorem d_M_image_27 : decode b_M_image 27 = .ok (.iload_n 1, 1) := by decide +kernel
theorem d_M_image_28 : decode b_M_image 28 = .ok (.imul, 1) := by decide +kernel
theorem d_M_image_29 : decode b_M_image 29 = .ok (.iload_n 2, 1) := by decide +kernel
theorem d_M_image_30 : decode b_M_image 30 = .ok (.iadd, 1) := by decide +kernel
theorem d_M_image_31 : decode b_M_image 31 = .ok (.iaload, 1) := by decide +kernel
theorem d_M_image_32 : decode b_M_image 32 = .ok (.goto 4, 3) := by decide +kernel
theorem d_M_image_35 : decode b_M_image 35 = .ok (.iconst (-1), 1) := by decide +kernel
theorem d_M_image_36 : decode b_M_image 36 = .ok (.ireturn, 1) := by decide +kernel
theorem d_M_spreadOf_0 : decode b_M_spreadOf 0 = .ok (.iconst 0, 1) := by decide +kernel
theorem d_M_spreadOf_1 : decode b_M_spreadOf 1 = .ok (.istore_n 2, 1) := by decide +kernel
theorem d_M_spreadOf_2 : decode b_M_spreadOf 2 = .ok (.iload_n 2, 1) := by decide +kernel
theorem d_M_spreadOf_3 : decode b_M_spreadOf 3 = .ok (.bipush 24, 2) := by decide +kernel
theorem d_M_spreadOf_5 : decode b_M_spreadOf 5 = .ok (.if_icmp .ge 21, 3) := by decide +kernel
theorem d_M_spreadOf_8 : decode b_M_spreadOf 8 = .ok (.aload_n 0, 1) := by decide +kernel
theorem d_M_spreadOf_9 : decode b_M_spreadOf 9 = .ok (.getfield 19, 3) := by decide +kernel
theorem d_M_spreadOf_12 : decode b_M_spreadOf 12 = .ok (.bipush 24, 2) := by decide +kernel
theorem d_M_spreadOf_14 : decode b_M_spreadOf 14 = .ok (.iload_n 1, 1) := by decide +kernel
theorem d_M_spreadOf_15 : decode b_M_spreadOf 15 = .ok (.imul, 1) := by decide +kernel
theorem d_M_spreadOf_16 : decode b_M_spreadOf 16 = .ok (.iload_n 2, 1) := by decide +kernel
theorem d_M_spreadOf_17 : decode b_M_spreadOf 17 = .ok (.iadd, 1) := by decide +kernel
theorem d_M_spreadOf_18 : decode b_M_spreadOf 18 = .ok (.iconst 0, 1) := by decide +kernel
theorem d_M_spreadOf_19 : decode b_M_spreadOf 19 = .ok (.bastore, 1) := by decide +kernel
theorem d_M_spreadOf_20 : decode b_M_spreadOf 20 = .ok (.iinc 2 1, 3) := by decide +kernel
theorem d_M_spreadOf_23 : decode b_M_spreadOf 23 = .ok (.goto (-21), 3) := by decide +kernel
theorem d_M_spreadOf_26 : decode b_M_spreadOf 26 = .ok (.aload_n 0, 1) := by decide +kernel
theorem d_M_spreadOf_27 : decode b_M_spreadOf 27 = .ok (.getfield 19, 3) := by decide +kernel
theorem d_M_spreadOf_30 : decode b_M_spreadOf 30 = .ok (.bipush 24, 2) := by decide +kernel
theorem d_M_spreadOf_32 : decode b_M_spreadOf 32 = .ok (.iload_n 1, 1) := by decide +kernel
theorem d_M_spreadOf_33 : decode b_M_spreadOf 33 = .ok (.imul, 1) := by decide +kernel
theorem d_M_spreadOf_34 : decode b_M_spreadOf 34 = .ok (.iload_n 1, 1) := by decide +kernel
theorem d_M_spreadOf_35 : decode b_M_spreadOf 35 = .ok (.iadd, 1) := by decide +kernel
theorem d_M_spreadOf_36 : decode b_M_spreadOf 36 = .ok (.iconst 1, 1) := by decide +kernel
theorem d_M_spreadOf_37 : decode b_M_spreadOf 37 = .ok (.bastore, 1) := by decide +kernel
theorem d_M_spreadOf_38 : decode b_M_spreadOf 38 = .ok (.iconst 0, 1) := by decide +kernel
theorem d_M_spreadOf_39 : decode b_M_spreadOf 39 = .ok (.istore_n 2, 1) := by decide +kernel
theorem d_M_spreadOf_40 : decode b_M_spreadOf 40 = .ok (.iload_n 2, 1) := by decide +kernel
theorem d_M_spreadOf_41 : decode b_M_spreadOf 41 = .ok (.bipush 24, 2) := by decide +kernel
theorem d_M_spreadOf_43 : decode b_M_spreadOf 43 = .ok (.if_icmp .ge 26, 3) := by decide +kernel
theorem d_M_spreadOf_46 : decode b_M_spreadOf 46 = .ok (.aload_n 0, 1) := by decide +kernel
theorem d_M_spreadOf_47 : decode b_M_spreadOf 47 = .ok (.getfield 16, 3) := by decide +kernel
theorem d_M_spreadOf_50 : decode b_M_spreadOf 50 = .ok (.bipush 24, 2) := by decide +kernel
theorem d_M_spreadOf_52 : decode b_M_spreadOf 52 = .ok (.bipush 24, 2) := by decide +kernel
theorem d_M_spreadOf_54 : decode b_M_spreadOf 54 = .ok (.iload_n 1, 1) := by decide +kernel
theorem d_M_spreadOf_55 : decode b_M_spreadOf 55 = .ok (.imul, 1) := by decide +kernel
theorem d_M_spreadOf_56 : decode b_M_spreadOf 56 = .ok (.iload_n 1, 1) := by decide +kernel
theorem d_M_spreadOf_57 : decode b_M_spreadOf 57 = .ok (.iadd, 1) := by decide +kernel
theorem d_M_spreadOf_58 : decode b_M_spreadOf 58 = .ok (.imul, 1) := by decide +kernel
theorem d_M_spreadOf_59 : decode b_M_spreadOf 59 = .ok (.iload_n 2, 1) := by decide +kernel
theorem d_M_spreadOf_60 : decode b_M_spreadOf 60 = .ok (.iadd, 1) := by decide +kernel
theorem d_M_spreadOf_61 : decode b_M_spreadOf 61 = .ok (.iload_n 2, 1) := by decide +kernel
theorem d_M_spreadOf_62 : decode b_M_spreadOf 62 = .ok (.iastore, 1) := by decide +kernel
theorem d_M_spreadOf_63 : decode b_M_spreadOf 63 = .ok (.iinc 2 1, 3) := by decide +kernel
theorem d_M_spreadOf_66 : decode b_M_spreadOf 66 = .ok (.goto (-26), 3) := by decide +kernel
theorem d_M_spreadOf_69 : decode b_M_spreadOf 69 = .ok (.aload_n 0, 1) := by decide +kernel
theorem d_M_spreadOf_70 : decode b_M_spreadOf 70 = .ok (.getfield 38, 3) := by decide +kernel
theorem d_M_spreadOf_73 : decode b_M_spreadOf 73 = .ok (.iconst 0, 1) := by decide +kernel
theorem d_M_spreadOf_74 : decode b_M_spreadOf 74 = .ok (.iload_n 1, 1) := by decide +kernel
theorem d_M_spreadOf_75 : decode b_M_spreadOf 75 = .ok (.iastore, 1) := by decide +kernel
theorem d_M_spreadOf_76 : decode b_M_spreadOf 76 = .ok (.iconst 1, 1) := by decide +kernel
theorem d_M_spreadOf_77 : decode b_M_spreadOf 77 = .ok (.istore_n 2, 1) := by decide +kernel
theorem d_M_spreadOf_78 : decode b_M_spreadOf 78 = .ok (.iconst 0, 1) := by decide +kernel
theorem d_M_spreadOf_79 : decode b_M_spreadOf 79 = .ok (.istore_n 3, 1) := by decide +kernel
theorem d_M_spreadOf_80 : decode b_M_spreadOf 80 = .ok (.iload_n 3, 1) := by decide +kernel
theorem d_M_spreadOf_81 : decode b_M_spreadOf 81 = .ok (.iload_n 2, 1) := by decide +kernel
theorem d_M_spreadOf_82 : decode b_M_spreadOf 82 = .ok (.if_icmp .ge 155, 3) := by decide +kernel
theorem d_M_spreadOf_85 : decode b_M_spreadOf 85 = .ok (.iconst 0, 1) := by decide +kernel
theorem d_M_spreadOf_86 : decode b_M_spreadOf 86 = .ok (.istore 4, 2) := by decide +kernel
theorem d_M_spreadOf_88 : decode b_M_spreadOf 88 = .ok (.iload 4, 2) := by decide +kernel
theorem d_M_spreadOf_90 : decode b_M_spreadOf 90 = .ok (.aload_n 0, 1) := by decide +kernel
theorem d_M_spreadOf_91 : decode b_M_spreadOf 91 = .ok (.getfield 97, 3) := by decide +kernel
theorem d_M_spreadOf_94 : decode b_M_spreadOf 94 = .ok (.if_icmp .ge 137, 3) := by decide +kernel
theorem d_M_spreadOf_97 : decode b_M_spreadOf 97 = .ok (.aload_n 0, 1) := by decide +kernel
theorem d_M_spreadOf_98 : decode b_M_spreadOf 98 = .ok (.getfield 38, 3) := by decide +kernel
theorem d_M_spreadOf_101 : decode b_M_spreadOf 101 = .ok (.iload_n 3, 1) := by decide +kernel
theorem d_M_spreadOf_102 : decode b_M_spreadOf 102 = .ok (.iaload, 1) := by decide +kernel
theorem d_M_spreadOf_103 : decode b_M_spreadOf 103 = .ok (.istore 5, 2) := by decide +kernel
theorem d_M_spreadOf_105 : decode b_M_spreadOf 105 = .ok (.aload_n 0, 1) := by decide +kernel
theorem d_M_spreadOf_106 : decode b_M_spreadOf 106 = .ok (.getfield 23, 3) := by decide +kernel
theorem d_M_spreadOf_109 : decode b_M_spreadOf 109 = .ok (.bipush 24, 2) := by decide +kernel
theorem d_M_spreadOf_111 : decode b_M_spreadOf 111 = .ok (.iload 4, 2) := by decide +kernel
theorem d_M_spreadOf_113 : decode b_M_spreadOf 113 = .ok (.imul, 1) := by decide +kernel
theorem d_M_spreadOf_114 : decode b_M_spreadOf 114 = .ok (.iload 5, 2) := by decide +kernel
theorem d_M_spreadOf_116 : decode b_M_spreadOf 116 = .ok (.iadd, 1) := by decide +kernel
theorem d_M_spreadOf_117 : decode b_M_spreadOf 117 = .ok (.iaload, 1) := by decide +kernel
theorem d_M_spreadOf_118 : decode b_M_spreadOf 118 = .ok (.istore 6, 2) := by decide +kernel
theorem d_M_spreadOf_120 : decode b_M_spreadOf 120 = .ok (.aload_n 0, 1) := by decide +kernel
theorem d_M_spreadOf_121 : decode b_M_spreadOf 121 = .ok (.getfield 19, 3) := by decide +kernel
theorem d_M_spreadOf_124 : decode b_M_spreadOf 124 = .ok (.bipush 24, 2) := by decide +kernel
theorem d_M_spreadOf_126 : decode b_M_spreadOf 126 = .ok (.iload_n 1, 1) := by decide +kernel
theorem d_M_spreadOf_127 : decode b_M_spreadOf 127 = .ok (.imul, 1) := by decide +kernel
theorem d_M_spreadOf_128 : decode b_M_spreadOf 128 = .ok (.iload 6, 2) := by decide +kernel
theorem d_M_spreadOf_130 : decode b_M_spreadOf 130 = .ok (.iadd, 1) := by decide +kernel
theorem d_M_spreadOf_131 : decode b_M_spreadOf 131 = .ok (.baload, 1) := by decide +kernel
theorem d_M_spreadOf_132 : decode b_M_spreadOf 132 = .ok (.ifCond .eq 6, 3) := by decide +kernel
theorem d_M_spreadOf_135 : decode b_M_spreadOf 135 = .ok (.goto 90, 3) := by decide +kernel
theorem d_M_spreadOf_138 : decode b_M_spreadOf 138 = .ok (.aload_n 0, 1) := by decide +kernel
theorem d_M_spreadOf_139 : decode b_M_spreadOf 139 = .ok (.getfield 19, 3) := by decide +kernel
theorem d_M_spreadOf_142 : decode b_M_spreadOf 142 = .ok (.bipush 24, 2) := by decide +kernel
theorem d_M_spreadOf_144 : decode b_M_spreadOf 144 = .ok (.iload_n 1, 1) := by decide +kernel
theorem d_M_spreadOf_145 : decode b_M_spreadOf 145 = .ok (.imul, 1) := by decide +kernel
theorem d_M_spreadOf_146 : decode b_M_spreadOf 146 = .ok (.iload 6, 2) := by decide +kernel
theorem d_M_spreadOf_148 : decode b_M_spreadOf 148 = .ok (.iadd, 1) := by decide +kernel
theorem d_M_spreadOf_149 : decode b_M_spreadOf 149 = .ok (.iconst 1, 1) := by decide +kernel
theorem d_M_spreadOf_150 : decode b_M_spreadOf 150 = .ok (.bastore, 1) := by decide +kernel
theorem d_M_spreadOf_151 : decode b_M_spreadOf 151 = .ok (.iconst 0, 1) := by decide +kernel
theorem d_M_spreadOf_152 : decode b_M_spreadOf 152 = .ok (.istore 7, 2) := by decide +kernel
theorem d_M_spreadOf_154 : decode b_M_spreadOf 154 = .ok (.iload 7, 2) := by decide +kernel
theorem d_M_spreadOf_156 : decode b_M_spreadOf 156 = .ok (.bipush 24, 2) := by decide +kernel
theorem d_M_spreadOf_158 : decode b_M_spreadOf 158 = .ok (.if_icmp .ge 56, 3) := by decide +kernel
theorem d_M_spreadOf_161 : decode b_M_spreadOf 161 = .ok (.aload_n 0, 1) := by decide +kernel
theorem d_M_spreadOf_162 : decode b_M_spreadOf 162 = .ok (.getfield 16, 3) := by decide +kernel
theorem d_M_spreadOf_165 : decode b_M_spreadOf 165 = .ok (.bipush 24, 2) := by decide +kernel
theorem d_M_spreadOf_167 : decode b_M_spreadOf 167 = .ok (.bipush 24, 2) := by decide +kernel
theorem d_M_spreadOf_169 : decode b_M_spreadOf 169 = .ok (.iload_n 1, 1) := by decide +kernel
theorem d_M_spreadOf_170 : decode b_M_spreadOf 170 = .ok (.imul, 1) := by decide +kernel
theorem d_M_spreadOf_171 : decode b_M_spreadOf 171 = .ok (.iload 6, 2) := by decide +kernel
theorem d_M_spreadOf_173 : decode b_M_spreadOf 173 = .ok (.iadd, 1) := by decide +kernel
theorem d_M_spreadOf_174 : decode b_M_spreadOf 174 = .ok (.imul, 1) := by decide +kernel
theorem d_M_spreadOf_175 : decode b_M_spreadOf 175 = .ok (.iload 7, 2) := by decide +kernel
theorem d_M_spreadOf_177 : decode b_M_spreadOf 177 = .ok (.iadd, 1) := by decide +kernel
theorem d_M_spreadOf_178 : decode b_M_spreadOf 178 = .ok (.aload_n 0, 1) := by decide +kernel
theorem d_M_spreadOf_179 : decode b_M_spreadOf 179 = .ok (.getfield 23, 3) := by decide +kernel
theorem d_M_spreadOf_182 : decode b_M_spreadOf 182 = .ok (.bipush 24, 2) := by decide +kernel
theorem d_M_spreadOf_184 : decode b_M_spreadOf 184 = .ok (.iload 4, 2) := by decide +kernel
theorem d_M_spreadOf_186 : decode b_M_spreadOf 186 = .ok (.imul, 1) := by decide +kernel
theorem d_M_spreadOf_187 : decode b_M_spreadOf 187 = .ok (.aload_n 0, 1) := by decide +kernel
theorem d_M_spreadOf_188 : decode b_M_spreadOf 188 = .ok (.getfield 16, 3) := by decide +kernel
theorem d_M_spreadOf_191 : decode b_M_spreadOf 191 = .ok (.bipush 24, 2) := by decide +kernel
theorem d_M_spreadOf_193 : decode b_M_spreadOf 193 = .ok (.bipush 24, 2) := by decide +kernel
theorem d_M_spreadOf_195 : decode b_M_spreadOf 195 = .ok (.iload_n 1, 1) := by decide +kernel
theorem d_M_spreadOf_196 : decode b_M_spreadOf 196 = .ok (.imul, 1) := by decide +kernel
theorem d_M_spreadOf_197 : decode b_M_spreadOf 197 = .ok (.iload 5, 2) := by decide +kernel
theorem d_M_spreadOf_199 : decode b_M_spreadOf 199 = .ok (.iadd, 1) := by decide +kernel
theorem d_M_spreadOf_200 : decode b_M_spreadOf 200 = .ok (.imul, 1) := by decide +kernel
theorem d_M_spreadOf_201 : decode b_M_spreadOf 201 = .ok (.iload 7, 2) := by decide +kernel
theorem d_M_spreadOf_203 : decode b_M_spreadOf 203 = .ok (.iadd, 1) := by decide +kernel
theorem d_M_spreadOf_204 : decode b_M_spreadOf 204 = .ok (.iaload, 1) := by decide +kernel
theorem d_M_spreadOf_205 : decode b_M_spreadOf 205 = .ok (.iadd, 1) := by decide +kernel
theorem d_M_spreadOf_206 : decode b_M_spreadOf 206 = .ok (.iaload, 1) := by decide +kernel
theorem d_M_spreadOf_207 : decode b_M_spreadOf 207 = .ok (.iastore, 1) := by decide +kernel
theorem d_M_spreadOf_208 : decode b_M_spreadOf 208 = .ok (.iinc 7 1, 3) := by decide +kernel
theorem d_M_spreadOf_211 : decode b_M_spreadOf 211 = .ok (.goto (-57), 3) := by decide +kernel
theorem d_M_spreadOf_214 : decode b_M_spreadOf 214 = .ok (.aload_n 0, 1) := by decide +kernel
theorem d_M_spreadOf_215 : decode b_M_spreadOf 215 = .ok (.getfield 38, 3) := by decide +kernel
theorem d_M_spreadOf_218 : decode b_M_spreadOf 218 = .ok (.iload_n 2, 1) := by decide +kernel
theorem d_M_spreadOf_219 : decode b_M_spreadOf 219 = .ok (.iload 6, 2) := by decide +kernel
theorem d_M_spreadOf_221 : decode b_M_spreadOf 221 = .ok (.iastore, 1) := by decide +kernel
theorem d_M_spreadOf_222 : decode b_M_spreadOf 222 = .ok (.iinc 2 1, 3) := by decide +kernel
theorem d_M_spreadOf_225 : decode b_M_spreadOf 225 = .ok (.iinc 4 1, 3) := by decide +kernel
theorem d_M_spreadOf_228 : decode b_M_spreadOf 228 = .ok (.goto (-140), 3) := by decide +kernel
theorem d_M_spreadOf_231 : decode b_M_spreadOf 231 = .ok (.iinc 3 1, 3) := by decide +kernel
theorem d_M_spreadOf_234 : decode b_M_spreadOf 234 = .ok (.goto (-154), 3) := by decide +kernel
theorem d_M_spreadOf_237 : decode b_M_spreadOf 237 = .ok (.return_, 1) := by decide +kernel
theorem d_M_undo_0 : decode b_M_undo 0 = .ok (.iconst 0, 1) := by decide +kernel
theorem d_M_undo_1 : decode b_M_undo 1 = .ok (.istore_n 3, 1) := by decide +kernel
theorem d_M_undo_2 : decode b_M_undo 2 = .ok (.iload_n 3, 1) := by decide +kernel
theorem d_M_undo_3 : decode b_M_undo 3 = .ok (.bipush 24, 2) := by decide +kernel
theorem d_M_undo_5 : decode b_M_undo 5 = .ok (.if_icmp .ge 31, 3) := by decide +kernel
theorem d_M_undo_8 : decode b_M_undo 8 = .ok (.aload_n 0, 1) := by decide +kernel
theorem d_M_undo_9 : decode b_M_undo 9 = .ok (.getfield 50, 3) := by decide +kernel
theorem d_M_undo_12 : decode b_M_undo 12 = .ok (.aload_n 0, 1) := by decide +kernel
theorem d_M_undo_13 : decode b_M_undo 13 = .ok (.getfield 16, 3) := by decide +kernel
theorem d_M_undo_16 : decode b_M_undo 16 = .ok (.bipush 24, 2) := by decide +kernel
theorem d_M_undo_18 : decode b_M_undo 18 = .ok (.bipush 24, 2) := by decide +kernel
theorem d_M_undo_20 : decode b_M_undo 20 = .ok (.iload_n 1, 1) := by decide +kernel
theorem d_M_undo_21 : decode b_M_undo 21 = .ok (.imul, 1) := by decide +kernel
theorem d_M_undo_22 : decode b_M_undo 22 = .ok (.iload_n 2, 1) := by decide +kernel
theorem d_M_undo_23 : decode b_M_undo 23 = .ok (.iadd, 1) := by decide +kernel
theorem d_M_undo_24 : decode b_M_undo 24 = .ok (.imul, 1) := by decide +kernel
theorem d_M_undo_25 : decode b_M_undo 25 = .ok (.iload_n 3, 1) := by decide +kernel
theorem d_M_undo_26 : decode b_M_undo 26 = .ok (.iadd, 1) := by decide +kernel
theorem d_M_undo_27 : decode b_M_undo 27 = .ok (.iaload, 1) := by decide +kernel
theorem d_M_undo_28 : decode b_M_undo 28 = .ok (.iload_n 3, 1) := by decide +kernel
theorem d_M_undo_29 : decode b_M_undo 29 = .ok (.iastore, 1) := by decide +kernel
theorem d_M_undo_30 : decode b_M_undo 30 = .ok (.iinc 3 1, 3) := by decide +kernel
theorem d_M_undo_33 : decode b_M_undo 33 = .ok (.goto (-31), 3) := by decide +kernel
theorem d_M_undo_36 : decode b_M_undo 36 = .ok (.iconst 0, 1) := by decide +kernel
theorem d_M_undo_37 : decode b_M_undo 37 = .ok (.istore_n 3, 1) := by decide +kernel
theorem d_M_undo_38 : decode b_M_undo 38 = .ok (.iload_n 3, 1) := by decide +kernel
theorem d_M_undo_39 : decode b_M_undo 39 = .ok (.bipush 24, 2) := by decide +kernel
theorem d_M_undo_41 : decode b_M_undo 41 = .ok (.if_icmp .ge 26, 3) := by decide +kernel
theorem d_M_undo_44 : decode b_M_undo 44 = .ok (.aload_n 0, 1) := by decide +kernel
theorem d_M_undo_45 : decode b_M_undo 45 = .ok (.getfield 47, 3) := by decide +kernel
theorem d_M_undo_48 : decode b_M_undo 48 = .ok (.iload_n 3, 1) := by decide +kernel
theorem d_M_undo_49 : decode b_M_undo 49 = .ok (.aload_n 0, 1) := by decide +kernel
theorem d_M_undo_50 : decode b_M_undo 50 = .ok (.getfield 50, 3) := by decide +kernel
theorem d_M_undo_53 : decode b_M_undo 53 = .ok (.aload_n 0, 1) := by decide +kernel
theorem d_M_undo_54 : decode b_M_undo 54 = .ok (.getfield 47, 3) := by decide +kernel
theorem d_M_undo_57 : decode b_M_undo 57 = .ok (.iload_n 3, 1) := by decide +kernel
theorem d_M_undo_58 : decode b_M_undo 58 = .ok (.iaload, 1) := by decide +kernel
theorem d_M_undo_59 : decode b_M_undo 59 = .ok (.iaload, 1) := by decide +kernel
theorem d_M_undo_60 : decode b_M_undo 60 = .ok (.iastore, 1) := by decide +kernel
theorem d_M_undo_61 : decode b_M_undo 61 = .ok (.iinc 3 1, 3) := by decide +kernel
theorem d_M_undo_64 : decode b_M_undo 64 = .ok (.goto (-26), 3) := by decide +kernel
theorem d_M_undo_67 : decode b_M_undo 67 = .ok (.return_, 1) := by decide +kernel
theorem d_M_leastMoved_0 : decode b_M_leastMoved 0 = .ok (.iconst 0, 1) := by decide +kernel
theorem d_M_leastMoved_1 : decode b_M_leastMoved 1 = .ok (.istore_n 1, 1) := by decide +kernel
theorem d_M_leastMoved_2 : decode b_M_leastMoved 2 = .ok (.iload_n 1, 1) := by decide +kernel
theorem d_M_leastMoved_3 : decode b_M_leastMoved 3 = .ok (.bipush 24, 2) := by decide +kernel
theorem d_M_leastMoved_5 : decode b_M_leastMoved 5 = .ok (.if_icmp .ge 21, 3) := by decide +kernel
theorem d_M_leastMoved_8 : decode b_M_leastMoved 8 = .ok (.aload_n 0, 1) := by decide +kernel
theorem d_M_leastMoved_9 : decode b_M_leastMoved 9 = .ok (.getfield 47, 3) := by decide +kernel
theorem d_M_leastMoved_12 : decode b_M_leastMoved 12 = .ok (.iload_n 1, 1) := by decide +kernel
theorem d_M_leastMoved_13 : decode b_M_leastMoved 13 = .ok (.iaload, 1) := by decide +kernel
theorem d_M_leastMoved_14 : decode b_M_leastMoved 14 = .ok (.iload_n 1, 1) := by decide +kernel
theorem d_M_leastMoved_15 : decode b_M_leastMoved 15 = .ok (.if_icmp .eq 5, 3) := by decide +kernel
theorem d_M_leastMoved_18 : decode b_M_leastMoved 18 = .ok (.iload_n 1, 1) := by decide +kernel
theorem d_M_leastMoved_19 : decode b_M_leastMoved 19 = .ok (.ireturn, 1) := by decide +kernel
theorem d_M_leastMoved_20 : decode b_M_leastMoved 20 = .ok (.iinc 1 1, 3) := by decide +kernel
theorem d_M_leastMoved_23 : decode b_M_leastMoved 23 = .ok (.goto (-21), 3) := by decide +kernel
theorem d_M_leastMoved_26 : decode b_M_leastMoved 26 = .ok (.iconst (-1), 1) := by decide +kernel
theorem d_M_leastMoved_27 : decode b_M_leastMoved 27 = .ok (.ireturn, 1) := by decide +kernel
theorem d_M_walk_0 : decode b_M_walk 0 = .ok (.iconst 0, 1) := by decide +kernel
theorem d_M_walk_1 : decode b_M_walk 1 = .ok (.istore_n 3, 1) := by decide +kernel
theorem d_M_walk_2 : decode b_M_walk 2 = .ok (.iload_n 3, 1) := by decide +kernel
theorem d_M_walk_3 : decode b_M_walk 3 = .ok (.bipush 24, 2) := by decide +kernel
theorem d_M_walk_5 : decode b_M_walk 5 = .ok (.if_icmp .ge 16, 3) := by decide +kernel
theorem d_M_walk_8 : decode b_M_walk 8 = .ok (.aload_n 0, 1) := by decide +kernel
theorem d_M_walk_9 : decode b_M_walk 9 = .ok (.getfield 44, 3) := by decide +kernel
theorem d_M_walk_12 : decode b_M_walk 12 = .ok (.iload_n 3, 1) := by decide +kernel
theorem d_M_walk_13 : decode b_M_walk 13 = .ok (.iconst 0, 1) := by decide +kernel
theorem d_M_walk_14 : decode b_M_walk 14 = .ok (.bastore, 1) := by decide +kernel
theorem d_M_walk_15 : decode b_M_walk 15 = .ok (.iinc 3 1, 3) := by decide +kernel
theorem d_M_walk_18 : decode b_M_walk 18 = .ok (.goto (-16), 3) := by decide +kernel
theorem d_M_walk_21 : decode b_M_walk 21 = .ok (.aload_n 0, 1) := by decide +kernel
theorem d_M_walk_22 : decode b_M_walk 22 = .ok (.getfield 38, 3) := by decide +kernel
theorem d_M_walk_25 : decode b_M_walk 25 = .ok (.iconst 0, 1) := by decide +kernel
theorem d_M_walk_26 : decode b_M_walk 26 = .ok (.iload_n 1, 1) := by decide +kernel
theorem d_M_walk_27 : decode b_M_walk 27 = .ok (.iastore, 1) := by decide +kernel
theorem d_M_walk_28 : decode b_M_walk 28 = .ok (.aload_n 0, 1) := by decide +kernel
theorem d_M_walk_29 : decode b_M_walk 29 = .ok (.getfield 44, 3) := by decide +kernel
theorem d_M_walk_32 : decode b_M_walk 32 = .ok (.iload_n 1, 1) := by decide +kernel
theorem d_M_walk_33 : decode b_M_walk 33 = .ok (.iconst 1, 1) := by decide +kernel
theorem d_M_walk_34 : decode b_M_walk 34 = .ok (.bastore, 1) := by decide +kernel
theorem d_M_walk_35 : decode b_M_walk 35 = .ok (.aload_n 0, 1) := by decide +kernel
theorem d_M_walk_36 : decode b_M_walk 36 = .ok (.getfield 41, 3) := by decide +kernel
theorem d_M_walk_39 : decode b_M_walk 39 = .ok (.iload_n 1, 1) := by decide +kernel
theorem d_M_walk_40 : decode b_M_walk 40 = .ok (.iconst (-1), 1) := by decide +kernel
theorem d_M_walk_41 : decode b_M_walk 41 = .ok (.iastore, 1) := by decide +kernel
theorem d_M_walk_42 : decode b_M_walk 42 = .ok (.iconst 1, 1) := by decide +kernel
theorem d_M_walk_43 : decode b_M_walk 43 = .ok (.istore_n 3, 1) := by decide +kernel
theorem d_M_walk_44 : decode b_M_walk 44 = .ok (.iconst 0, 1) := by decide +kernel
theorem d_M_walk_45 : decode b_M_walk 45 = .ok (.istore 4, 2) := by decide +kernel
theorem d_M_walk_47 : decode b_M_walk 47 = .ok (.iload 4, 2) := by decide +kernel
theorem d_M_walk_49 : decode b_M_walk 49 = .ok (.iload_n 3, 1) := by decide +kernel
theorem d_M_walk_50 : decode b_M_walk 50 = .ok (.if_icmp .ge 149, 3) := by decide +kernel
theorem d_M_walk_53 : decode b_M_walk 53 = .ok (.iconst 0, 1) := by decide +kernel
theorem d_M_walk_54 : decode b_M_walk 54 = .ok (.istore 5, 2) := by decide +kernel
theorem d_M_walk_56 : decode b_M_walk 56 = .ok (.iload 5, 2) := by decide +kernel
theorem d_M_walk_58 : decode b_M_walk 58 = .ok (.bipush 24, 2) := by decide +kernel
theorem d_M_walk_60 : decode b_M_walk 60 = .ok (.if_icmp .ge 133, 3) := by decide +kernel
theorem d_M_walk_63 : decode b_M_walk 63 = .ok (.aload_n 0, 1) := by decide +kernel
theorem d_M_walk_64 : decode b_M_walk 64 = .ok (.getfield 35, 3) := by decide +kernel
theorem d_M_walk_67 : decode b_M_walk 67 = .ok (.iload 5, 2) := by decide +kernel
theorem d_M_walk_69 : decode b_M_walk 69 = .ok (.baload, 1) := by decide +kernel
theorem d_M_walk_70 : decode b_M_walk 70 = .ok (.ifCond .eq 117, 3) := by decide +kernel
theorem d_M_walk_73 : decode b_M_walk 73 = .ok (.aload_n 0, 1) := by decide +kernel
theorem d_M_walk_74 : decode b_M_walk 74 = .ok (.getfield 26, 3) := by decide +kernel
theorem d_M_walk_77 : decode b_M_walk 77 = .ok (.iload 5, 2) := by decide +kernel
theorem d_M_walk_79 : decode b_M_walk 79 = .ok (.iaload, 1) := by decide +kernel
theorem d_M_walk_80 : decode b_M_walk 80 = .ok (.aload_n 0, 1) := by decide +kernel
theorem d_M_walk_81 : decode b_M_walk 81 = .ok (.getfield 38, 3) := by decide +kernel
theorem d_M_walk_84 : decode b_M_walk 84 = .ok (.iload 4, 2) := by decide +kernel
theorem d_M_walk_86 : decode b_M_walk 86 = .ok (.iaload, 1) := by decide +kernel
theorem d_M_walk_87 : decode b_M_walk 87 = .ok (.if_icmp .eq 23, 3) := by decide +kernel
theorem d_M_walk_90 : decode b_M_walk 90 = .ok (.aload_n 0, 1) := by decide +kernel
theorem d_M_walk_91 : decode b_M_walk 91 = .ok (.getfield 29, 3) := by decide +kernel
theorem d_M_walk_94 : decode b_M_walk 94 = .ok (.iload 5, 2) := by decide +kernel
theorem d_M_walk_96 : decode b_M_walk 96 = .ok (.iaload, 1) := by decide +kernel
theorem d_M_walk_97 : decode b_M_walk 97 = .ok (.aload_n 0, 1) := by decide +kernel
theorem d_M_walk_98 : decode b_M_walk 98 = .ok (.getfield 38, 3) := by decide +kernel
theorem d_M_walk_101 : decode b_M_walk 101 = .ok (.iload 4, 2) := by decide +kernel
theorem d_M_walk_103 : decode b_M_walk 103 = .ok (.iaload, 1) := by decide +kernel
theorem d_M_walk_104 : decode b_M_walk 104 = .ok (.if_icmp .eq 6, 3) := by decide +kernel
theorem d_M_walk_107 : decode b_M_walk 107 = .ok (.goto 80, 3) := by decide +kernel
theorem d_M_walk_110 : decode b_M_walk 110 = .ok (.aload_n 0, 1) := by decide +kernel
theorem d_M_walk_111 : decode b_M_walk 111 = .ok (.getfield 26, 3) := by decide +kernel
theorem d_M_walk_114 : decode b_M_walk 114 = .ok (.iload 5, 2) := by decide +kernel
theorem d_M_walk_116 : decode b_M_walk 116 = .ok (.iaload, 1) := by decide +kernel
theorem d_M_walk_117 : decode b_M_walk 117 = .ok (.aload_n 0, 1) := by decide +kernel
theorem d_M_walk_118 : decode b_M_walk 118 = .ok (.getfield 38, 3) := by decide +kernel
theorem d_M_walk_121 : decode b_M_walk 121 = .ok (.iload 4, 2) := by decide +kernel
theorem d_M_walk_123 : decode b_M_walk 123 = .ok (.iaload, 1) := by decide +kernel
theorem d_M_walk_124 : decode b_M_walk 124 = .ok (.if_icmp .ne 13, 3) := by decide +kernel
theorem d_M_walk_127 : decode b_M_walk 127 = .ok (.aload_n 0, 1) := by decide +kernel
theorem d_M_walk_128 : decode b_M_walk 128 = .ok (.getfield 29, 3) := by decide +kernel
theorem d_M_walk_131 : decode b_M_walk 131 = .ok (.iload 5, 2) := by decide +kernel
theorem d_M_walk_133 : decode b_M_walk 133 = .ok (.iaload, 1) := by decide +kernel
theorem d_M_walk_134 : decode b_M_walk 134 = .ok (.goto 10, 3) := by decide +kernel
theorem d_M_walk_137 : decode b_M_walk 137 = .ok (.aload_n 0, 1) := by decide +kernel
theorem d_M_walk_138 : decode b_M_walk 138 = .ok (.getfield 26, 3) := by decide +kernel
theorem d_M_walk_141 : decode b_M_walk 141 = .ok (.iload 5, 2) := by decide +kernel
theorem d_M_walk_143 : decode b_M_walk 143 = .ok (.iaload, 1) := by decide +kernel
theorem d_M_walk_144 : decode b_M_walk 144 = .ok (.istore 6, 2) := by decide +kernel
theorem d_M_walk_146 : decode b_M_walk 146 = .ok (.aload_n 0, 1) := by decide +kernel
theorem d_M_walk_147 : decode b_M_walk 147 = .ok (.getfield 44, 3) := by decide +kernel
theorem d_M_walk_150 : decode b_M_walk 150 = .ok (.iload 6, 2) := by decide +kernel
theorem d_M_walk_152 : decode b_M_walk 152 = .ok (.baload, 1) := by decide +kernel
theorem d_M_walk_153 : decode b_M_walk 153 = .ok (.ifCond .eq 6, 3) := by decide +kernel
theorem d_M_walk_156 : decode b_M_walk 156 = .ok (.goto 31, 3) := by decide +kernel
theorem d_M_walk_159 : decode b_M_walk 159 = .ok (.aload_n 0, 1) := by decide +kernel
theorem d_M_walk_160 : decode b_M_walk 160 = .ok (.getfield 44, 3) := by decide +kernel
theorem d_M_walk_163 : decode b_M_walk 163 = .ok (.iload 6, 2) := by decide +kernel
theorem d_M_walk_165 : decode b_M_walk 165 = .ok (.iconst 1, 1) := by decide +kernel
theorem d_M_walk_166 : decode b_M_walk 166 = .ok (.bastore, 1) := by decide +kernel
theorem d_M_walk_167 : decode b_M_walk 167 = .ok (.aload_n 0, 1) := by decide +kernel
theorem d_M_walk_168 : decode b_M_walk 168 = .ok (.getfield 41, 3) := by decide +kernel
theorem d_M_walk_171 : decode b_M_walk 171 = .ok (.iload 6, 2) := by decide +kernel
theorem d_M_walk_173 : decode b_M_walk 173 = .ok (.iload 5, 2) := by decide +kernel
theorem d_M_walk_175 : decode b_M_walk 175 = .ok (.iastore, 1) := by decide +kernel
theorem d_M_walk_176 : decode b_M_walk 176 = .ok (.aload_n 0, 1) := by decide +kernel
theorem d_M_walk_177 : decode b_M_walk 177 = .ok (.getfield 38, 3) := by decide +kernel
theorem d_M_walk_180 : decode b_M_walk 180 = .ok (.iload_n 3, 1) := by decide +kernel
theorem d_M_walk_181 : decode b_M_walk 181 = .ok (.iload 6, 2) := by decide +kernel
theorem d_M_walk_183 : decode b_M_walk 183 = .ok (.iastore, 1) := by decide +kernel
theorem d_M_walk_184 : decode b_M_walk 184 = .ok (.iinc 3 1, 3) := by decide +kernel
theorem d_M_walk_187 : decode b_M_walk 187 = .ok (.iinc 5 1, 3) := by decide +kernel
theorem d_M_walk_190 : decode b_M_walk 190 = .ok (.goto (-134), 3) := by decide +kernel
theorem d_M_walk_193 : decode b_M_walk 193 = .ok (.iinc 4 1, 3) := by decide +kernel
theorem d_M_walk_196 : decode b_M_walk 196 = .ok (.goto (-149), 3) := by decide +kernel
theorem d_M_walk_199 : decode b_M_walk 199 = .ok (.aload_n 0, 1) := by decide +kernel
theorem d_M_walk_200 : decode b_M_walk 200 = .ok (.getfield 44, 3) := by decide +kernel
theorem d_M_walk_203 : decode b_M_walk 203 = .ok (.iload_n 2, 1) := by decide +kernel
theorem d_M_walk_204 : decode b_M_walk 204 = .ok (.baload, 1) := by decide +kernel
theorem d_M_walk_205 : decode b_M_walk 205 = .ok (.ireturn, 1) := by decide +kernel
theorem d_M_put_0 : decode b_M_put 0 = .ok (.iconst 0, 1) := by decide +kernel
theorem d_M_put_1 : decode b_M_put 1 = .ok (.istore_n 3, 1) := by decide +kernel
theorem d_M_put_2 : decode b_M_put 2 = .ok (.aload_n 0, 1) := by decide +kernel
theorem d_M_put_3 : decode b_M_put 3 = .ok (.getfield 35, 3) := by decide +kernel
theorem d_M_put_6 : decode b_M_put 6 = .ok (.iload_n 3, 1) := by decide +kernel
theorem d_M_put_7 : decode b_M_put 7 = .ok (.baload, 1) := by decide +kernel
theorem d_M_put_8 : decode b_M_put 8 = .ok (.ifCond .eq 9, 3) := by decide +kernel
theorem d_M_put_11 : decode b_M_put 11 = .ok (.iinc 3 1, 3) := by decide +kernel
theorem d_M_put_14 : decode b_M_put 14 = .ok (.goto (-12), 3) := by decide +kernel
theorem d_M_put_17 : decode b_M_put 17 = .ok (.aload_n 0, 1) := by decide +kernel
theorem d_M_put_18 : decode b_M_put 18 = .ok (.getfield 35, 3) := by decide +kernel
theorem d_M_put_21 : decode b_M_put 21 = .ok (.iload_n 3, 1) := by decide +kernel
theorem d_M_put_22 : decode b_M_put 22 = .ok (.iconst 1, 1) := by decide +kernel
theorem d_M_put_23 : decode b_M_put 23 = .ok (.bastore, 1) := by decide +kernel
theorem d_M_put_24 : decode b_M_put 24 = .ok (.aload_n 0, 1) := by decide +kernel
theorem d_M_put_25 : decode b_M_put 25 = .ok (.getfield 26, 3) := by decide +kernel
theorem d_M_put_28 : decode b_M_put 28 = .ok (.iload_n 3, 1) := by decide +kernel
theorem d_M_put_29 : decode b_M_put 29 = .ok (.iload_n 1, 1) := by decide +kernel
theorem d_M_put_30 : decode b_M_put 30 = .ok (.iastore, 1) := by decide +kernel
theorem d_M_put_31 : decode b_M_put 31 = .ok (.aload_n 0, 1) := by decide +kernel
theorem d_M_put_32 : decode b_M_put 32 = .ok (.getfield 29, 3) := by decide +kernel
theorem d_M_put_35 : decode b_M_put 35 = .ok (.iload_n 3, 1) := by decide +kernel
theorem d_M_put_36 : decode b_M_put 36 = .ok (.iload_n 2, 1) := by decide +kernel
theorem d_M_put_37 : decode b_M_put 37 = .ok (.iastore, 1) := by decide +kernel
theorem d_M_put_38 : decode b_M_put 38 = .ok (.iconst 0, 1) := by decide +kernel
theorem d_M_put_39 : decode b_M_put 39 = .ok (.istore 4, 2) := by decide +kernel
theorem d_M_put_41 : decode b_M_put 41 = .ok (.iload 4, 2) := by decide +kernel
theorem d_M_put_43 : decode b_M_put 43 = .ok (.bipush 24, 2) := by decide +kernel
theorem d_M_put_45 : decode b_M_put 45 = .ok (.if_icmp .ge 28, 3) := by decide +kernel
theorem d_M_put_48 : decode b_M_put 48 = .ok (.aload_n 0, 1) := by decide +kernel
theorem d_M_put_49 : decode b_M_put 49 = .ok (.getfield 32, 3) := by decide +kernel
theorem d_M_put_52 : decode b_M_put 52 = .ok (.bipush 24, 2) := by decide +kernel
theorem d_M_put_54 : decode b_M_put 54 = .ok (.iload_n 3, 1) := by decide +kernel
theorem d_M_put_55 : decode b_M_put 55 = .ok (.imul, 1) := by decide +kernel
theorem d_M_put_56 : decode b_M_put 56 = .ok (.iload 4, 2) := by decide +kernel
theorem d_M_put_58 : decode b_M_put 58 = .ok (.iadd, 1) := by decide +kernel
theorem d_M_put_59 : decode b_M_put 59 = .ok (.aload_n 0, 1) := by decide +kernel
theorem d_M_put_60 : decode b_M_put 60 = .ok (.getfield 47, 3) := by decide +kernel
theorem d_M_put_63 : decode b_M_put 63 = .ok (.iload 4, 2) := by decide +kernel
theorem d_M_put_65 : decode b_M_put 65 = .ok (.iaload, 1) := by decide +kernel
theorem d_M_put_66 : decode b_M_put 66 = .ok (.iastore, 1) := by decide +kernel
theorem d_M_put_67 : decode b_M_put 67 = .ok (.iinc 4 1, 3) := by decide +kernel
theorem d_M_put_70 : decode b_M_put 70 = .ok (.goto (-29), 3) := by decide +kernel
theorem d_M_put_73 : decode b_M_put 73 = .ok (.return_, 1) := by decide +kernel
theorem d_M_along_0 : decode b_M_along 0 = .ok (.iconst 0, 1) := by decide +kernel
theorem d_M_along_1 : decode b_M_along 1 = .ok (.istore_n 3, 1) := by decide +kernel
theorem d_M_along_2 : decode b_M_along 2 = .ok (.iload_n 3, 1) := by decide +kernel
theorem d_M_along_3 : decode b_M_along 3 = .ok (.bipush 24, 2) := by decide +kernel
theorem d_M_along_5 : decode b_M_along 5 = .ok (.if_icmp .ge 52, 3) := by decide +kernel
theorem d_M_along_8 : decode b_M_along 8 = .ok (.aload_n 0, 1) := by decide +kernel
theorem d_M_along_9 : decode b_M_along 9 = .ok (.getfield 50, 3) := by decide +kernel
theorem d_M_along_12 : decode b_M_along 12 = .ok (.iload_n 2, 1) := by decide +kernel
theorem d_M_along_13 : decode b_M_along 13 = .ok (.ifCond .eq 7, 3) := by decide +kernel
theorem d_M_along_16 : decode b_M_along 16 = .ok (.iload_n 3, 1) := by decide +kernel
theorem d_M_along_17 : decode b_M_along 17 = .ok (.goto 14, 3) := by decide +kernel
theorem d_M_along_20 : decode b_M_along 20 = .ok (.aload_n 0, 1) := by decide +kernel
theorem d_M_along_21 : decode b_M_along 21 = .ok (.getfield 32, 3) := by decide +kernel
theorem d_M_along_24 : decode b_M_along 24 = .ok (.bipush 24, 2) := by decide +kernel
theorem d_M_along_26 : decode b_M_along 26 = .ok (.iload_n 1, 1) := by decide +kernel
theorem d_M_along_27 : decode b_M_along 27 = .ok (.imul, 1) := by decide +kernel
theorem d_M_along_28 : decode b_M_along 28 = .ok (.iload_n 3, 1) := by decide +kernel
theorem d_M_along_29 : decode b_M_along 29 = .ok (.iadd, 1) := by decide +kernel
theorem d_M_along_30 : decode b_M_along 30 = .ok (.iaload, 1) := by decide +kernel
theorem d_M_along_31 : decode b_M_along 31 = .ok (.iload_n 2, 1) := by decide +kernel
theorem d_M_along_32 : decode b_M_along 32 = .ok (.ifCond .eq 17, 3) := by decide +kernel
theorem d_M_along_35 : decode b_M_along 35 = .ok (.aload_n 0, 1) := by decide +kernel
theorem d_M_along_36 : decode b_M_along 36 = .ok (.getfield 32, 3) := by decide +kernel
theorem d_M_along_39 : decode b_M_along 39 = .ok (.bipush 24, 2) := by decide +kernel
theorem d_M_along_41 : decode b_M_along 41 = .ok (.iload_n 1, 1) := by decide +kernel
theorem d_M_along_42 : decode b_M_along 42 = .ok (.imul, 1) := by decide +kernel
theorem d_M_along_43 : decode b_M_along 43 = .ok (.iload_n 3, 1) := by decide +kernel
theorem d_M_along_44 : decode b_M_along 44 = .ok (.iadd, 1) := by decide +kernel
theorem d_M_along_45 : decode b_M_along 45 = .ok (.iaload, 1) := by decide +kernel
theorem d_M_along_46 : decode b_M_along 46 = .ok (.goto 4, 3) := by decide +kernel
theorem d_M_along_49 : decode b_M_along 49 = .ok (.iload_n 3, 1) := by decide +kernel
theorem d_M_along_50 : decode b_M_along 50 = .ok (.iastore, 1) := by decide +kernel
theorem d_M_along_51 : decode b_M_along 51 = .ok (.iinc 3 1, 3) := by decide +kernel
theorem d_M_along_54 : decode b_M_along 54 = .ok (.goto (-52), 3) := by decide +kernel
theorem d_M_along_57 : decode b_M_along 57 = .ok (.iconst 0, 1) := by decide +kernel
theorem d_M_along_58 : decode b_M_along 58 = .ok (.istore_n 3, 1) := by decide +kernel
theorem d_M_along_59 : decode b_M_along 59 = .ok (.iload_n 3, 1) := by decide +kernel
theorem d_M_along_60 : decode b_M_along 60 = .ok (.bipush 24, 2) := by decide +kernel
theorem d_M_along_62 : decode b_M_along 62 = .ok (.if_icmp .ge 26, 3) := by decide +kernel
theorem d_M_along_65 : decode b_M_along 65 = .ok (.aload_n 0, 1) := by decide +kernel
theorem d_M_along_66 : decode b_M_along 66 = .ok (.getfield 47, 3) := by decide +kernel
theorem d_M_along_69 : decode b_M_along 69 = .ok (.iload_n 3, 1) := by decide +kernel
theorem d_M_along_70 : decode b_M_along 70 = .ok (.aload_n 0, 1) := by decide +kernel
theorem d_M_along_71 : decode b_M_along 71 = .ok (.getfield 50, 3) := by decide +kernel
theorem d_M_along_74 : decode b_M_along 74 = .ok (.aload_n 0, 1) := by decide +kernel
theorem d_M_along_75 : decode b_M_along 75 = .ok (.getfield 47, 3) := by decide +kernel
theorem d_M_along_78 : decode b_M_along 78 = .ok (.iload_n 3, 1) := by decide +kernel
theorem d_M_along_79 : decode b_M_along 79 = .ok (.iaload, 1) := by decide +kernel
theorem d_M_along_80 : decode b_M_along 80 = .ok (.iaload, 1) := by decide +kernel
theorem d_M_along_81 : decode b_M_along 81 = .ok (.iastore, 1) := by decide +kernel
theorem d_M_along_82 : decode b_M_along 82 = .ok (.iinc 3 1, 3) := by decide +kernel
theorem d_M_along_85 : decode b_M_along 85 = .ok (.goto (-26), 3) := by decide +kernel
theorem d_M_along_88 : decode b_M_along 88 = .ok (.return_, 1) := by decide +kernel
end
section
theorem d_M_keep_0 : decode b_M_keep 0 = .ok (.aload_n 0, 1) := by decide +kernel
theorem d_M_keep_1 : decode b_M_keep 1 = .ok (.invokevirtual 100, 3) := by decide +kernel
theorem d_M_keep_4 : decode b_M_keep 4 = .ok (.istore_n 1, 1) := by decide +kernel
theorem d_M_keep_5 : decode b_M_keep 5 = .ok (.iload_n 1, 1) := by decide +kernel
theorem d_M_keep_6 : decode b_M_keep 6 = .ok (.ifCond .lt 379, 3) := by decide +kernel
theorem d_M_keep_9 : decode b_M_keep 9 = .ok (.aload_n 0, 1) := by decide +kernel
theorem d_M_keep_10 : decode b_M_keep 10 = .ok (.getfield 47, 3) := by decide +kernel
theorem d_M_keep_13 : decode b_M_keep 13 = .ok (.iload_n 1, 1) := by decide +kernel
theorem d_M_keep_14 : decode b_M_keep 14 = .ok (.iaload, 1) := by decide +kernel
theorem d_M_keep_15 : decode b_M_keep 15 = .ok (.istore_n 2, 1) := by decide +kernel
theorem d_M_keep_16 : decode b_M_keep 16 = .ok (.aload_n 0, 1) := by decide +kernel
theorem d_M_keep_17 : decode b_M_keep 17 = .ok (.iload_n 2, 1) := by decide +kernel
theorem d_M_keep_18 : decode b_M_keep 18 = .ok (.iload_n 1, 1) := by decide +kernel
theorem d_M_keep_19 : decode b_M_keep 19 = .ok (.invokevirtual 104, 3) := by decide +kernel
theorem d_M_keep_22 : decode b_M_keep 22 = .ok (.ifCond .ne 10, 3) := by decide +kernel
theorem d_M_keep_25 : decode b_M_keep 25 = .ok (.aload_n 0, 1) := by decide +kernel
theorem d_M_keep_26 : decode b_M_keep 26 = .ok (.iload_n 1, 1) := by decide +kernel
theorem d_M_keep_27 : decode b_M_keep 27 = .ok (.iload_n 2, 1) := by decide +kernel
theorem d_M_keep_28 : decode b_M_keep 28 = .ok (.invokevirtual 108, 3) := by decide +kernel
theorem d_M_keep_31 : decode b_M_keep 31 = .ok (.return_, 1) := by decide +kernel
theorem d_M_keep_32 : decode b_M_keep 32 = .ok (.iconst 0, 1) := by decide +kernel
theorem d_M_keep_33 : decode b_M_keep 33 = .ok (.istore_n 3, 1) := by decide +kernel
theorem d_M_keep_34 : decode b_M_keep 34 = .ok (.iload_n 1, 1) := by decide +kernel
theorem d_M_keep_35 : decode b_M_keep 35 = .ok (.istore 4, 2) := by decide +kernel
theorem d_M_keep_37 : decode b_M_keep 37 = .ok (.iload_n 1, 1) := by decide +kernel
theorem d_M_keep_38 : decode b_M_keep 38 = .ok (.istore 5, 2) := by decide +kernel
theorem d_M_keep_40 : decode b_M_keep 40 = .ok (.iload 5, 2) := by decide +kernel
theorem d_M_keep_42 : decode b_M_keep 42 = .ok (.ifCond .lt 93, 3) := by decide +kernel
theorem d_M_keep_45 : decode b_M_keep 45 = .ok (.aload_n 0, 1) := by decide +kernel
theorem d_M_keep_46 : decode b_M_keep 46 = .ok (.getfield 59, 3) := by decide +kernel
theorem d_M_keep_49 : decode b_M_keep 49 = .ok (.iload_n 3, 1) := by decide +kernel
theorem d_M_keep_50 : decode b_M_keep 50 = .ok (.iload 5, 2) := by decide +kernel
theorem d_M_keep_52 : decode b_M_keep 52 = .ok (.iastore, 1) := by decide +kernel
theorem d_M_keep_53 : decode b_M_keep 53 = .ok (.iload 5, 2) := by decide +kernel
theorem d_M_keep_55 : decode b_M_keep 55 = .ok (.iload 4, 2) := by decide +kernel
theorem d_M_keep_57 : decode b_M_keep 57 = .ok (.if_icmp .ge 8, 3) := by decide +kernel
theorem d_M_keep_60 : decode b_M_keep 60 = .ok (.iload 5, 2) := by decide +kernel
theorem d_M_keep_62 : decode b_M_keep 62 = .ok (.goto 5, 3) := by decide +kernel
theorem d_M_keep_65 : decode b_M_keep 65 = .ok (.iload 4, 2) := by decide +kernel
theorem d_M_keep_67 : decode b_M_keep 67 = .ok (.istore 4, 2) := by decide +kernel
theorem d_M_keep_69 : decode b_M_keep 69 = .ok (.iinc 3 1, 3) := by decide +kernel
theorem d_M_keep_72 : decode b_M_keep 72 = .ok (.aload_n 0, 1) := by decide +kernel
theorem d_M_keep_73 : decode b_M_keep 73 = .ok (.getfield 41, 3) := by decide +kernel
theorem d_M_keep_76 : decode b_M_keep 76 = .ok (.iload 5, 2) := by decide +kernel
theorem d_M_keep_78 : decode b_M_keep 78 = .ok (.iaload, 1) := by decide +kernel
theorem d_M_keep_79 : decode b_M_keep 79 = .ok (.ifCond .ge 7, 3) := by decide +kernel
theorem d_M_keep_82 : decode b_M_keep 82 = .ok (.iconst (-1), 1) := by decide +kernel
theorem d_M_keep_83 : decode b_M_keep 83 = .ok (.goto 47, 3) := by decide +kernel
theorem d_M_keep_86 : decode b_M_keep 86 = .ok (.aload_n 0, 1) := by decide +kernel
theorem d_M_keep_87 : decode b_M_keep 87 = .ok (.getfield 26, 3) := by decide +kernel
theorem d_M_keep_90 : decode b_M_keep 90 = .ok (.aload_n 0, 1) := by decide +kernel
theorem d_M_keep_91 : decode b_M_keep 91 = .ok (.getfield 41, 3) := by decide +kernel
theorem d_M_keep_94 : decode b_M_keep 94 = .ok (.iload 5, 2) := by decide +kernel
theorem d_M_keep_96 : decode b_M_keep 96 = .ok (.iaload, 1) := by decide +kernel
theorem d_M_keep_97 : decode b_M_keep 97 = .ok (.iaload, 1) := by decide +kernel
theorem d_M_keep_98 : decode b_M_keep 98 = .ok (.iload 5, 2) := by decide +kernel
theorem d_M_keep_100 : decode b_M_keep 100 = .ok (.if_icmp .ne 18, 3) := by decide +kernel
theorem d_M_keep_103 : decode b_M_keep 103 = .ok (.aload_n 0, 1) := by decide +kernel
theorem d_M_keep_104 : decode b_M_keep 104 = .ok (.getfield 29, 3) := by decide +kernel
theorem d_M_keep_107 : decode b_M_keep 107 = .ok (.aload_n 0, 1) := by decide +kernel
theorem d_M_keep_108 : decode b_M_keep 108 = .ok (.getfield 41, 3) := by decide +kernel
theorem d_M_keep_111 : decode b_M_keep 111 = .ok (.iload 5, 2) := by decide +kernel
theorem d_M_keep_113 : decode b_M_keep 113 = .ok (.iaload, 1) := by decide +kernel
theorem d_M_keep_114 : decode b_M_keep 114 = .ok (.iaload, 1) := by decide +kernel
theorem d_M_keep_115 : decode b_M_keep 115 = .ok (.goto 15, 3) := by decide +kernel
theorem d_M_keep_118 : decode b_M_keep 118 = .ok (.aload_n 0, 1) := by decide +kernel
theorem d_M_keep_119 : decode b_M_keep 119 = .ok (.getfield 26, 3) := by decide +kernel
theorem d_M_keep_122 : decode b_M_keep 122 = .ok (.aload_n 0, 1) := by decide +kernel
theorem d_M_keep_123 : decode b_M_keep 123 = .ok (.getfield 41, 3) := by decide +kernel
theorem d_M_keep_126 : decode b_M_keep 126 = .ok (.iload 5, 2) := by decide +kernel
theorem d_M_keep_128 : decode b_M_keep 128 = .ok (.iaload, 1) := by decide +kernel
theorem d_M_keep_129 : decode b_M_keep 129 = .ok (.iaload, 1) := by decide +kernel
theorem d_M_keep_130 : decode b_M_keep 130 = .ok (.istore 5, 2) := by decide +kernel
theorem d_M_keep_132 : decode b_M_keep 132 = .ok (.goto (-92), 3) := by decide +kernel
theorem d_M_keep_135 : decode b_M_keep 135 = .ok (.iconst 0, 1) := by decide +kernel
theorem d_M_keep_136 : decode b_M_keep 136 = .ok (.istore 5, 2) := by decide +kernel
theorem d_M_keep_138 : decode b_M_keep 138 = .ok (.aload_n 0, 1) := by decide +kernel
theorem d_M_keep_139 : decode b_M_keep 139 = .ok (.getfield 59, 3) := by decide +kernel
theorem d_M_keep_142 : decode b_M_keep 142 = .ok (.iload 5, 2) := by decide +kernel
theorem d_M_keep_144 : decode b_M_keep 144 = .ok (.iaload, 1) := by decide +kernel
theorem d_M_keep_145 : decode b_M_keep 145 = .ok (.iload 4, 2) := by decide +kernel
theorem d_M_keep_147 : decode b_M_keep 147 = .ok (.if_icmp .eq 9, 3) := by decide +kernel
theorem d_M_keep_150 : decode b_M_keep 150 = .ok (.iinc 5 1, 3) := by decide +kernel
theorem d_M_keep_153 : decode b_M_keep 153 = .ok (.goto (-15), 3) := by decide +kernel
theorem d_M_keep_156 : decode b_M_keep 156 = .ok (.iload 4, 2) := by decide +kernel
theorem d_M_keep_158 : decode b_M_keep 158 = .ok (.iload_n 1, 1) := by decide +kernel
theorem d_M_keep_159 : decode b_M_keep 159 = .ok (.if_icmp .ne 7, 3) := by decide +kernel
theorem d_M_keep_162 : decode b_M_keep 162 = .ok (.iconst 1, 1) := by decide +kernel
theorem d_M_keep_163 : decode b_M_keep 163 = .ok (.goto 4, 3) := by decide +kernel
theorem d_M_keep_166 : decode b_M_keep 166 = .ok (.iconst 0, 1) := by decide +kernel
theorem d_M_keep_167 : decode b_M_keep 167 = .ok (.istore 6, 2) := by decide +kernel
theorem d_M_keep_169 : decode b_M_keep 169 = .ok (.iload 6, 2) := by decide +kernel
theorem d_M_keep_171 : decode b_M_keep 171 = .ok (.ifCond .eq 7, 3) := by decide +kernel
theorem d_M_keep_174 : decode b_M_keep 174 = .ok (.iconst (-1), 1) := by decide +kernel
theorem d_M_keep_175 : decode b_M_keep 175 = .ok (.goto 10, 3) := by decide +kernel
theorem d_M_keep_178 : decode b_M_keep 178 = .ok (.aload_n 0, 1) := by decide +kernel
theorem d_M_keep_179 : decode b_M_keep 179 = .ok (.getfield 41, 3) := by decide +kernel
theorem d_M_keep_182 : decode b_M_keep 182 = .ok (.iload 4, 2) := by decide +kernel
theorem d_M_keep_184 : decode b_M_keep 184 = .ok (.iaload, 1) := by decide +kernel
theorem d_M_keep_185 : decode b_M_keep 185 = .ok (.istore 7, 2) := by decide +kernel
theorem d_M_keep_187 : decode b_M_keep 187 = .ok (.aload_n 0, 1) := by decide +kernel
theorem d_M_keep_188 : decode b_M_keep 188 = .ok (.invokevirtual 111, 3) := by decide +kernel
theorem d_M_keep_191 : decode b_M_keep 191 = .ok (.istore 8, 2) := by decide +kernel
theorem d_M_keep_193 : decode b_M_keep 193 = .ok (.aload_n 0, 1) := by decide +kernel
theorem d_M_keep_194 : decode b_M_keep 194 = .ok (.getfield 35, 3) := by decide +kernel
theorem d_M_keep_197 : decode b_M_keep 197 = .ok (.iload 8, 2) := by decide +kernel
theorem d_M_keep_199 : decode b_M_keep 199 = .ok (.iconst 1, 1) := by decide +kernel
theorem d_M_keep_200 : decode b_M_keep 200 = .ok (.bastore, 1) := by decide +kernel
theorem d_M_keep_201 : decode b_M_keep 201 = .ok (.aload_n 0, 1) := by decide +kernel
theorem d_M_keep_202 : decode b_M_keep 202 = .ok (.getfield 26, 3) := by decide +kernel
theorem d_M_keep_205 : decode b_M_keep 205 = .ok (.iload 8, 2) := by decide +kernel
theorem d_M_keep_207 : decode b_M_keep 207 = .ok (.iload_n 1, 1) := by decide +kernel
theorem d_M_keep_208 : decode b_M_keep 208 = .ok (.iastore, 1) := by decide +kernel
theorem d_M_keep_209 : decode b_M_keep 209 = .ok (.aload_n 0, 1) := by decide +kernel
theorem d_M_keep_210 : decode b_M_keep 210 = .ok (.getfield 29, 3) := by decide +kernel
theorem d_M_keep_213 : decode b_M_keep 213 = .ok (.iload 8, 2) := by decide +kernel
theorem d_M_keep_215 : decode b_M_keep 215 = .ok (.iload_n 2, 1) := by decide +kernel
theorem d_M_keep_216 : decode b_M_keep 216 = .ok (.iastore, 1) := by decide +kernel
theorem d_M_keep_217 : decode b_M_keep 217 = .ok (.iconst 0, 1) := by decide +kernel
theorem d_M_keep_218 : decode b_M_keep 218 = .ok (.istore 9, 2) := by decide +kernel
theorem d_M_keep_220 : decode b_M_keep 220 = .ok (.iload 9, 2) := by decide +kernel
theorem d_M_keep_222 : decode b_M_keep 222 = .ok (.bipush 24, 2) := by decide +kernel
theorem d_M_keep_224 : decode b_M_keep 224 = .ok (.if_icmp .ge 38, 3) := by decide +kernel
theorem d_M_keep_227 : decode b_M_keep 227 = .ok (.aload_n 0, 1) := by decide +kernel
theorem d_M_keep_228 : decode b_M_keep 228 = .ok (.getfield 32, 3) := by decide +kernel
theorem d_M_keep_231 : decode b_M_keep 231 = .ok (.bipush 24, 2) := by decide +kernel
theorem d_M_keep_233 : decode b_M_keep 233 = .ok (.iload 8, 2) := by decide +kernel
theorem d_M_keep_235 : decode b_M_keep 235 = .ok (.imul, 1) := by decide +kernel
theorem d_M_keep_236 : decode b_M_keep 236 = .ok (.iload 9, 2) := by decide +kernel
theorem d_M_keep_238 : decode b_M_keep 238 = .ok (.iadd, 1) := by decide +kernel
theorem d_M_keep_239 : decode b_M_keep 239 = .ok (.aload_n 0, 1) := by decide +kernel
theorem d_M_keep_240 : decode b_M_keep 240 = .ok (.getfield 47, 3) := by decide +kernel
theorem d_M_keep_243 : decode b_M_keep 243 = .ok (.iload 9, 2) := by decide +kernel
theorem d_M_keep_245 : decode b_M_keep 245 = .ok (.iaload, 1) := by decide +kernel
theorem d_M_keep_246 : decode b_M_keep 246 = .ok (.iastore, 1) := by decide +kernel
theorem d_M_keep_247 : decode b_M_keep 247 = .ok (.aload_n 0, 1) := by decide +kernel
theorem d_M_keep_248 : decode b_M_keep 248 = .ok (.getfield 47, 3) := by decide +kernel
theorem d_M_keep_251 : decode b_M_keep 251 = .ok (.iload 9, 2) := by decide +kernel
theorem d_M_keep_253 : decode b_M_keep 253 = .ok (.iload 9, 2) := by decide +kernel
theorem d_M_keep_255 : decode b_M_keep 255 = .ok (.iastore, 1) := by decide +kernel
theorem d_M_keep_256 : decode b_M_keep 256 = .ok (.iinc 9 1, 3) := by decide +kernel
theorem d_M_keep_259 : decode b_M_keep 259 = .ok (.goto (-39), 3) := by decide +kernel
theorem d_M_keep_262 : decode b_M_keep 262 = .ok (.iconst 0, 1) := by decide +kernel
theorem d_M_keep_263 : decode b_M_keep 263 = .ok (.istore 9, 2) := by decide +kernel
theorem d_M_keep_265 : decode b_M_keep 265 = .ok (.iload 9, 2) := by decide +kernel
theorem d_M_keep_267 : decode b_M_keep 267 = .ok (.iload_n 3, 1) := by decide +kernel
theorem d_M_keep_268 : decode b_M_keep 268 = .ok (.if_icmp .ge 91, 3) := by decide +kernel
theorem d_M_keep_271 : decode b_M_keep 271 = .ok (.aload_n 0, 1) := by decide +kernel
theorem d_M_keep_272 : decode b_M_keep 272 = .ok (.getfield 59, 3) := by decide +kernel
theorem d_M_keep_275 : decode b_M_keep 275 = .ok (.iload 5, 2) := by decide +kernel
theorem d_M_keep_277 : decode b_M_keep 277 = .ok (.iload_n 3, 1) := by decide +kernel
theorem d_M_keep_278 : decode b_M_keep 278 = .ok (.iadd, 1) := by decide +kernel
theorem d_M_keep_279 : decode b_M_keep 279 = .ok (.iload 9, 2) := by decide +kernel
theorem d_M_keep_281 : decode b_M_keep 281 = .ok (.isub, 1) := by decide +kernel
theorem d_M_keep_282 : decode b_M_keep 282 = .ok (.iload_n 3, 1) := by decide +kernel
theorem d_M_keep_283 : decode b_M_keep 283 = .ok (.irem, 1) := by decide +kernel
theorem d_M_keep_284 : decode b_M_keep 284 = .ok (.iaload, 1) := by decide +kernel
theorem d_M_keep_285 : decode b_M_keep 285 = .ok (.istore 10, 2) := by decide +kernel
theorem d_M_keep_287 : decode b_M_keep 287 = .ok (.aload_n 0, 1) := by decide +kernel
theorem d_M_keep_288 : decode b_M_keep 288 = .ok (.getfield 59, 3) := by decide +kernel
theorem d_M_keep_291 : decode b_M_keep 291 = .ok (.iload 5, 2) := by decide +kernel
theorem d_M_keep_293 : decode b_M_keep 293 = .ok (.iload_n 3, 1) := by decide +kernel
theorem d_M_keep_294 : decode b_M_keep 294 = .ok (.iadd, 1) := by decide +kernel
theorem d_M_keep_295 : decode b_M_keep 295 = .ok (.iload 9, 2) := by decide +kernel
theorem d_M_keep_297 : decode b_M_keep 297 = .ok (.isub, 1) := by decide +kernel
theorem d_M_keep_298 : decode b_M_keep 298 = .ok (.iconst 1, 1) := by decide +kernel
theorem d_M_keep_299 : decode b_M_keep 299 = .ok (.isub, 1) := by decide +kernel
theorem d_M_keep_300 : decode b_M_keep 300 = .ok (.iload_n 3, 1) := by decide +kernel
theorem d_M_keep_301 : decode b_M_keep 301 = .ok (.iadd, 1) := by decide +kernel
theorem d_M_keep_302 : decode b_M_keep 302 = .ok (.iload_n 3, 1) := by decide +kernel
theorem d_M_keep_303 : decode b_M_keep 303 = .ok (.irem, 1) := by decide +kernel
theorem d_M_keep_304 : decode b_M_keep 304 = .ok (.iaload, 1) := by decide +kernel
theorem d_M_keep_305 : decode b_M_keep 305 = .ok (.istore 11, 2) := by decide +kernel
theorem d_M_keep_307 : decode b_M_keep 307 = .ok (.iload 10, 2) := by decide +kernel
theorem d_M_keep_309 : decode b_M_keep 309 = .ok (.iload_n 1, 1) := by decide +kernel
theorem d_M_keep_310 : decode b_M_keep 310 = .ok (.if_icmp .ne 8, 3) := by decide +kernel
theorem d_M_keep_313 : decode b_M_keep 313 = .ok (.iload 8, 2) := by decide +kernel
theorem d_M_keep_315 : decode b_M_keep 315 = .ok (.goto 13, 3) := by decide +kernel
theorem d_M_keep_318 : decode b_M_keep 318 = .ok (.aload_n 0, 1) := by decide +kernel
theorem d_M_keep_319 : decode b_M_keep 319 = .ok (.iload 10, 2) := by decide +kernel
theorem d_M_keep_321 : decode b_M_keep 321 = .ok (.iload 11, 2) := by decide +kernel
theorem d_M_keep_323 : decode b_M_keep 323 = .ok (.iload 8, 2) := by decide +kernel
theorem d_M_keep_325 : decode b_M_keep 325 = .ok (.invokevirtual 114, 3) := by decide +kernel
theorem d_M_keep_328 : decode b_M_keep 328 = .ok (.istore 12, 2) := by decide +kernel
theorem d_M_keep_330 : decode b_M_keep 330 = .ok (.aload_n 0, 1) := by decide +kernel
theorem d_M_keep_331 : decode b_M_keep 331 = .ok (.iload 12, 2) := by decide +kernel
theorem d_M_keep_333 : decode b_M_keep 333 = .ok (.aload_n 0, 1) := by decide +kernel
theorem d_M_keep_334 : decode b_M_keep 334 = .ok (.getfield 26, 3) := by decide +kernel
theorem d_M_keep_337 : decode b_M_keep 337 = .ok (.iload 12, 2) := by decide +kernel
theorem d_M_keep_339 : decode b_M_keep 339 = .ok (.iaload, 1) := by decide +kernel
theorem d_M_keep_340 : decode b_M_keep 340 = .ok (.iload 10, 2) := by decide +kernel
theorem d_M_keep_342 : decode b_M_keep 342 = .ok (.if_icmp .ne 7, 3) := by decide +kernel
theorem d_M_keep_345 : decode b_M_keep 345 = .ok (.iconst 1, 1) := by decide +kernel
theorem d_M_keep_346 : decode b_M_keep 346 = .ok (.goto 4, 3) := by decide +kernel
theorem d_M_keep_349 : decode b_M_keep 349 = .ok (.iconst 0, 1) := by decide +kernel
theorem d_M_keep_350 : decode b_M_keep 350 = .ok (.invokevirtual 118, 3) := by decide +kernel
theorem d_M_keep_353 : decode b_M_keep 353 = .ok (.iinc 9 1, 3) := by decide +kernel
theorem d_M_keep_356 : decode b_M_keep 356 = .ok (.goto (-91), 3) := by decide +kernel
theorem d_M_keep_359 : decode b_M_keep 359 = .ok (.aload_n 0, 1) := by decide +kernel
theorem d_M_keep_360 : decode b_M_keep 360 = .ok (.getfield 35, 3) := by decide +kernel
theorem d_M_keep_363 : decode b_M_keep 363 = .ok (.iload 6, 2) := by decide +kernel
theorem d_M_keep_365 : decode b_M_keep 365 = .ok (.ifCond .eq 8, 3) := by decide +kernel
theorem d_M_keep_368 : decode b_M_keep 368 = .ok (.iload 8, 2) := by decide +kernel
theorem d_M_keep_370 : decode b_M_keep 370 = .ok (.goto 5, 3) := by decide +kernel
theorem d_M_keep_373 : decode b_M_keep 373 = .ok (.iload 7, 2) := by decide +kernel
theorem d_M_keep_375 : decode b_M_keep 375 = .ok (.iconst 0, 1) := by decide +kernel
theorem d_M_keep_376 : decode b_M_keep 376 = .ok (.bastore, 1) := by decide +kernel
theorem d_M_keep_377 : decode b_M_keep 377 = .ok (.aload_n 0, 1) := by decide +kernel
theorem d_M_keep_378 : decode b_M_keep 378 = .ok (.invokevirtual 100, 3) := by decide +kernel
theorem d_M_keep_381 : decode b_M_keep 381 = .ok (.istore_n 1, 1) := by decide +kernel
theorem d_M_keep_382 : decode b_M_keep 382 = .ok (.goto (-377), 3) := by decide +kernel
theorem d_M_keep_385 : decode b_M_keep 385 = .ok (.return_, 1) := by decide +kernel
theorem d_M_free_0 : decode b_M_free 0 = .ok (.iconst 0, 1) := by decide +kernel
theorem d_M_free_1 : decode b_M_free 1 = .ok (.istore_n 1, 1) := by decide +kernel
theorem d_M_free_2 : decode b_M_free 2 = .ok (.aload_n 0, 1) := by decide +kernel
theorem d_M_free_3 : decode b_M_free 3 = .ok (.getfield 35, 3) := by decide +kernel
theorem d_M_free_6 : decode b_M_free 6 = .ok (.iload_n 1, 1) := by decide +kernel
theorem d_M_free_7 : decode b_M_free 7 = .ok (.baload, 1) := by decide +kernel
theorem d_M_free_8 : decode b_M_free 8 = .ok (.ifCond .eq 9, 3) := by decide +kernel
theorem d_M_free_11 : decode b_M_free 11 = .ok (.iinc 1 1, 3) := by decide +kernel
theorem d_M_free_14 : decode b_M_free 14 = .ok (.goto (-12), 3) := by decide +kernel
theorem d_M_free_17 : decode b_M_free 17 = .ok (.iload_n 1, 1) := by decide +kernel
theorem d_M_free_18 : decode b_M_free 18 = .ok (.ireturn, 1) := by decide +kernel
theorem d_M_edgeBetween_0 : decode b_M_edgeBetween 0 = .ok (.iconst 0, 1) := by decide +kernel
theorem d_M_edgeBetween_1 : decode b_M_edgeBetween 1 = .ok (.istore 4, 2) := by decide +kernel
theorem d_M_edgeBetween_3 : decode b_M_edgeBetween 3 = .ok (.iload 4, 2) := by decide +kernel
theorem d_M_edgeBetween_5 : decode b_M_edgeBetween 5 = .ok (.bipush 24, 2) := by decide +kernel
theorem d_M_edgeBetween_7 : decode b_M_edgeBetween 7 = .ok (.if_icmp .ge 72, 3) := by decide +kernel
theorem d_M_edgeBetween_10 : decode b_M_edgeBetween 10 = .ok (.aload_n 0, 1) := by decide +kernel
theorem d_M_edgeBetween_11 : decode b_M_edgeBetween 11 = .ok (.getfield 35, 3) := by decide +kernel
theorem d_M_edgeBetween_14 : decode b_M_edgeBetween 14 = .ok (.iload 4, 2) := by decide +kernel
theorem d_M_edgeBetween_16 : decode b_M_edgeBetween 16 = .ok (.baload, 1) := by decide +kernel
theorem d_M_edgeBetween_17 : decode b_M_edgeBetween 17 = .ok (.ifCond .eq 56, 3) := by decide +kernel
theorem d_M_edgeBetween_20 : decode b_M_edgeBetween 20 = .ok (.iload 4, 2) := by decide +kernel
theorem d_M_edgeBetween_22 : decode b_M_edgeBetween 22 = .ok (.iload_n 3, 1) := by decide +kernel
theorem d_M_edgeBetween_23 : decode b_M_edgeBetween 23 = .ok (.if_icmp .eq 50, 3) := by decide +kernel
theorem d_M_edgeBetween_26 : decode b_M_edgeBetween 26 = .ok (.aload_n 0, 1) := by decide +kernel
theorem d_M_edgeBetween_27 : decode b_M_edgeBetween 27 = .ok (.getfield 26, 3) := by decide +kernel
theorem d_M_edgeBetween_30 : decode b_M_edgeBetween 30 = .ok (.iload 4, 2) := by decide +kernel
theorem d_M_edgeBetween_32 : decode b_M_edgeBetween 32 = .ok (.iaload, 1) := by decide +kernel
theorem d_M_edgeBetween_33 : decode b_M_edgeBetween 33 = .ok (.iload_n 1, 1) := by decide +kernel
theorem d_M_edgeBetween_34 : decode b_M_edgeBetween 34 = .ok (.if_icmp .ne 14, 3) := by decide +kernel
theorem d_M_edgeBetween_37 : decode b_M_edgeBetween 37 = .ok (.aload_n 0, 1) := by decide +kernel
theorem d_M_edgeBetween_38 : decode b_M_edgeBetween 38 = .ok (.getfield 29, 3) := by decide +kernel
theorem d_M_edgeBetween_41 : decode b_M_edgeBetween 41 = .ok (.iload 4, 2) := by decide +kernel
theorem d_M_edgeBetween_43 : decode b_M_edgeBetween 43 = .ok (.iaload, 1) := by decide +kernel
theorem d_M_edgeBetween_44 : decode b_M_edgeBetween 44 = .ok (.iload_n 2, 1) := by decide +kernel
theorem d_M_edgeBetween_45 : decode b_M_edgeBetween 45 = .ok (.if_icmp .eq 25, 3) := by decide +kernel
theorem d_M_edgeBetween_48 : decode b_M_edgeBetween 48 = .ok (.aload_n 0, 1) := by decide +kernel
theorem d_M_edgeBetween_49 : decode b_M_edgeBetween 49 = .ok (.getfield 26, 3) := by decide +kernel
theorem d_M_edgeBetween_52 : decode b_M_edgeBetween 52 = .ok (.iload 4, 2) := by decide +kernel
theorem d_M_edgeBetween_54 : decode b_M_edgeBetween 54 = .ok (.iaload, 1) := by decide +kernel
theorem d_M_edgeBetween_55 : decode b_M_edgeBetween 55 = .ok (.iload_n 2, 1) := by decide +kernel
theorem d_M_edgeBetween_56 : decode b_M_edgeBetween 56 = .ok (.if_icmp .ne 17, 3) := by decide +kernel
theorem d_M_edgeBetween_59 : decode b_M_edgeBetween 59 = .ok (.aload_n 0, 1) := by decide +kernel
theorem d_M_edgeBetween_60 : decode b_M_edgeBetween 60 = .ok (.getfield 29, 3) := by decide +kernel
theorem d_M_edgeBetween_63 : decode b_M_edgeBetween 63 = .ok (.iload 4, 2) := by decide +kernel
theorem d_M_edgeBetween_65 : decode b_M_edgeBetween 65 = .ok (.iaload, 1) := by decide +kernel
theorem d_M_edgeBetween_66 : decode b_M_edgeBetween 66 = .ok (.iload_n 1, 1) := by decide +kernel
theorem d_M_edgeBetween_67 : decode b_M_edgeBetween 67 = .ok (.if_icmp .ne 6, 3) := by decide +kernel
theorem d_M_edgeBetween_70 : decode b_M_edgeBetween 70 = .ok (.iload 4, 2) := by decide +kernel
theorem d_M_edgeBetween_72 : decode b_M_edgeBetween 72 = .ok (.ireturn, 1) := by decide +kernel
theorem d_M_edgeBetween_73 : decode b_M_edgeBetween 73 = .ok (.iinc 4 1, 3) := by decide +kernel
theorem d_M_edgeBetween_76 : decode b_M_edgeBetween 76 = .ok (.goto (-73), 3) := by decide +kernel
theorem d_M_edgeBetween_79 : decode b_M_edgeBetween 79 = .ok (.iload_n 3, 1) := by decide +kernel
theorem d_M_edgeBetween_80 : decode b_M_edgeBetween 80 = .ok (.ireturn, 1) := by decide +kernel
theorem d_M_nextPart_0 : decode b_M_nextPart 0 = .ok (.iconst 0, 1) := by decide +kernel
theorem d_M_nextPart_1 : decode b_M_nextPart 1 = .ok (.istore_n 2, 1) := by decide +kernel
theorem d_M_nextPart_2 : decode b_M_nextPart 2 = .ok (.iload_n 2, 1) := by decide +kernel
theorem d_M_nextPart_3 : decode b_M_nextPart 3 = .ok (.bipush 24, 2) := by decide +kernel
theorem d_M_nextPart_5 : decode b_M_nextPart 5 = .ok (.if_icmp .ge 16, 3) := by decide +kernel
theorem d_M_nextPart_8 : decode b_M_nextPart 8 = .ok (.aload_n 0, 1) := by decide +kernel
theorem d_M_nextPart_9 : decode b_M_nextPart 9 = .ok (.getfield 35, 3) := by decide +kernel
theorem d_M_nextPart_12 : decode b_M_nextPart 12 = .ok (.iload_n 2, 1) := by decide +kernel
theorem d_M_nextPart_13 : decode b_M_nextPart 13 = .ok (.iconst 0, 1) := by decide +kernel
theorem d_M_nextPart_14 : decode b_M_nextPart 14 = .ok (.bastore, 1) := by decide +kernel
theorem d_M_nextPart_15 : decode b_M_nextPart 15 = .ok (.iinc 2 1, 3) := by decide +kernel
theorem d_M_nextPart_18 : decode b_M_nextPart 18 = .ok (.goto (-16), 3) := by decide +kernel
theorem d_M_nextPart_21 : decode b_M_nextPart 21 = .ok (.iconst 0, 1) := by decide +kernel
theorem d_M_nextPart_22 : decode b_M_nextPart 22 = .ok (.istore_n 2, 1) := by decide +kernel
theorem d_M_nextPart_23 : decode b_M_nextPart 23 = .ok (.iload_n 2, 1) := by decide +kernel
theorem d_M_nextPart_24 : decode b_M_nextPart 24 = .ok (.aload_n 0, 1) := by decide +kernel
theorem d_M_nextPart_25 : decode b_M_nextPart 25 = .ok (.getfield 65, 3) := by decide +kernel
theorem d_M_nextPart_28 : decode b_M_nextPart 28 = .ok (.if_icmp .ge 112, 3) := by decide +kernel
theorem d_M_nextPart_31 : decode b_M_nextPart 31 = .ok (.aload_n 0, 1) := by decide +kernel
theorem d_M_nextPart_32 : decode b_M_nextPart 32 = .ok (.getfield 19, 3) := by decide +kernel
theorem d_M_nextPart_35 : decode b_M_nextPart 35 = .ok (.bipush 24, 2) := by decide +kernel
theorem d_M_nextPart_37 : decode b_M_nextPart 37 = .ok (.iload_n 1, 1) := by decide +kernel
theorem d_M_nextPart_38 : decode b_M_nextPart 38 = .ok (.imul, 1) := by decide +kernel
theorem d_M_nextPart_39 : decode b_M_nextPart 39 = .ok (.iload_n 2, 1) := by decide +kernel
theorem d_M_nextPart_40 : decode b_M_nextPart 40 = .ok (.iadd, 1) := by decide +kernel
theorem d_M_nextPart_41 : decode b_M_nextPart 41 = .ok (.baload, 1) := by decide +kernel
theorem d_M_nextPart_42 : decode b_M_nextPart 42 = .ok (.ifCond .ne 6, 3) := by decide +kernel
theorem d_M_nextPart_45 : decode b_M_nextPart 45 = .ok (.goto 89, 3) := by decide +kernel
theorem d_M_nextPart_48 : decode b_M_nextPart 48 = .ok (.iconst 0, 1) := by decide +kernel
theorem d_M_nextPart_49 : decode b_M_nextPart 49 = .ok (.istore_n 3, 1) := by decide +kernel
theorem d_M_nextPart_50 : decode b_M_nextPart 50 = .ok (.iload_n 3, 1) := by decide +kernel
theorem d_M_nextPart_51 : decode b_M_nextPart 51 = .ok (.aload_n 0, 1) := by decide +kernel
theorem d_M_nextPart_52 : decode b_M_nextPart 52 = .ok (.getfield 97, 3) := by decide +kernel
theorem d_M_nextPart_55 : decode b_M_nextPart 55 = .ok (.if_icmp .ge 79, 3) := by decide +kernel
theorem d_M_nextPart_58 : decode b_M_nextPart 58 = .ok (.iconst 0, 1) := by decide +kernel
theorem d_M_nextPart_59 : decode b_M_nextPart 59 = .ok (.istore 4, 2) := by decide +kernel
theorem d_M_nextPart_61 : decode b_M_nextPart 61 = .ok (.iload 4, 2) := by decide +kernel
theorem d_M_nextPart_63 : decode b_M_nextPart 63 = .ok (.bipush 24, 2) := by decide +kernel
theorem d_M_nextPart_65 : decode b_M_nextPart 65 = .ok (.if_icmp .ge 43, 3) := by decide +kernel
theorem d_M_nextPart_68 : decode b_M_nextPart 68 = .ok (.aload_n 0, 1) := by decide +kernel
theorem d_M_nextPart_69 : decode b_M_nextPart 69 = .ok (.getfield 47, 3) := by decide +kernel
theorem d_M_nextPart_72 : decode b_M_nextPart 72 = .ok (.iload 4, 2) := by decide +kernel
theorem d_M_nextPart_74 : decode b_M_nextPart 74 = .ok (.aload_n 0, 1) := by decide +kernel
theorem d_M_nextPart_75 : decode b_M_nextPart 75 = .ok (.getfield 23, 3) := by decide +kernel
theorem d_M_nextPart_78 : decode b_M_nextPart 78 = .ok (.bipush 24, 2) := by decide +kernel
theorem d_M_nextPart_80 : decode b_M_nextPart 80 = .ok (.iload_n 3, 1) := by decide +kernel
theorem d_M_nextPart_81 : decode b_M_nextPart 81 = .ok (.imul, 1) := by decide +kernel
theorem d_M_nextPart_82 : decode b_M_nextPart 82 = .ok (.aload_n 0, 1) := by decide +kernel
theorem d_M_nextPart_83 : decode b_M_nextPart 83 = .ok (.getfield 16, 3) := by decide +kernel
theorem d_M_nextPart_86 : decode b_M_nextPart 86 = .ok (.bipush 24, 2) := by decide +kernel
theorem d_M_nextPart_88 : decode b_M_nextPart 88 = .ok (.bipush 24, 2) := by decide +kernel
theorem d_M_nextPart_90 : decode b_M_nextPart 90 = .ok (.iload_n 1, 1) := by decide +kernel
theorem d_M_nextPart_91 : decode b_M_nextPart 91 = .ok (.imul, 1) := by decide +kernel
theorem d_M_nextPart_92 : decode b_M_nextPart 92 = .ok (.iload_n 2, 1) := by decide +kernel
theorem d_M_nextPart_93 : decode b_M_nextPart 93 = .ok (.iadd, 1) := by decide +kernel
theorem d_M_nextPart_94 : decode b_M_nextPart 94 = .ok (.imul, 1) := by decide +kernel
theorem d_M_nextPart_95 : decode b_M_nextPart 95 = .ok (.iload 4, 2) := by decide +kernel
theorem d_M_nextPart_97 : decode b_M_nextPart 97 = .ok (.iadd, 1) := by decide +kernel
theorem d_M_nextPart_98 : decode b_M_nextPart 98 = .ok (.iaload, 1) := by decide +kernel
theorem d_M_nextPart_99 : decode b_M_nextPart 99 = .ok (.iadd, 1) := by decide +kernel
theorem d_M_nextPart_100 : decode b_M_nextPart 100 = .ok (.iaload, 1) := by decide +kernel
theorem d_M_nextPart_101 : decode b_M_nextPart 101 = .ok (.iastore, 1) := by decide +kernel
theorem d_M_nextPart_102 : decode b_M_nextPart 102 = .ok (.iinc 4 1, 3) := by decide +kernel
theorem d_M_nextPart_105 : decode b_M_nextPart 105 = .ok (.goto (-44), 3) := by decide +kernel
theorem d_M_nextPart_108 : decode b_M_nextPart 108 = .ok (.aload_n 0, 1) := by decide +kernel
theorem d_M_nextPart_109 : decode b_M_nextPart 109 = .ok (.iload_n 1, 1) := by decide +kernel
theorem d_M_nextPart_110 : decode b_M_nextPart 110 = .ok (.aload_n 0, 1) := by decide +kernel
theorem d_M_nextPart_111 : decode b_M_nextPart 111 = .ok (.getfield 23, 3) := by decide +kernel
theorem d_M_nextPart_114 : decode b_M_nextPart 114 = .ok (.bipush 24, 2) := by decide +kernel
theorem d_M_nextPart_116 : decode b_M_nextPart 116 = .ok (.iload_n 3, 1) := by decide +kernel
theorem d_M_nextPart_117 : decode b_M_nextPart 117 = .ok (.imul, 1) := by decide +kernel
theorem d_M_nextPart_118 : decode b_M_nextPart 118 = .ok (.iload_n 2, 1) := by decide +kernel
theorem d_M_nextPart_119 : decode b_M_nextPart 119 = .ok (.iadd, 1) := by decide +kernel
theorem d_M_nextPart_120 : decode b_M_nextPart 120 = .ok (.iaload, 1) := by decide +kernel
theorem d_M_nextPart_121 : decode b_M_nextPart 121 = .ok (.invokevirtual 122, 3) := by decide +kernel
theorem d_M_nextPart_124 : decode b_M_nextPart 124 = .ok (.aload_n 0, 1) := by decide +kernel
theorem d_M_nextPart_125 : decode b_M_nextPart 125 = .ok (.invokevirtual 125, 3) := by decide +kernel
theorem d_M_nextPart_128 : decode b_M_nextPart 128 = .ok (.iinc 3 1, 3) := by decide +kernel
theorem d_M_nextPart_131 : decode b_M_nextPart 131 = .ok (.goto (-81), 3) := by decide +kernel
theorem d_M_nextPart_134 : decode b_M_nextPart 134 = .ok (.iinc 2 1, 3) := by decide +kernel
theorem d_M_nextPart_137 : decode b_M_nextPart 137 = .ok (.goto (-114), 3) := by decide +kernel
theorem d_M_nextPart_140 : decode b_M_nextPart 140 = .ok (.aload_n 0, 1) := by decide +kernel
theorem d_M_nextPart_141 : decode b_M_nextPart 141 = .ok (.iconst 0, 1) := by decide +kernel
theorem d_M_nextPart_142 : decode b_M_nextPart 142 = .ok (.putfield 97, 3) := by decide +kernel
theorem d_M_nextPart_145 : decode b_M_nextPart 145 = .ok (.iconst 0, 1) := by decide +kernel
theorem d_M_nextPart_146 : decode b_M_nextPart 146 = .ok (.istore_n 2, 1) := by decide +kernel
theorem d_M_nextPart_147 : decode b_M_nextPart 147 = .ok (.iload_n 2, 1) := by decide +kernel
theorem d_M_nextPart_148 : decode b_M_nextPart 148 = .ok (.bipush 24, 2) := by decide +kernel
theorem d_M_nextPart_150 : decode b_M_nextPart 150 = .ok (.if_icmp .ge 70, 3) := by decide +kernel
theorem d_M_nextPart_153 : decode b_M_nextPart 153 = .ok (.aload_n 0, 1) := by decide +kernel
theorem d_M_nextPart_154 : decode b_M_nextPart 154 = .ok (.getfield 35, 3) := by decide +kernel
theorem d_M_nextPart_157 : decode b_M_nextPart 157 = .ok (.iload_n 2, 1) := by decide +kernel
theorem d_M_nextPart_158 : decode b_M_nextPart 158 = .ok (.baload, 1) := by decide +kernel
theorem d_M_nextPart_159 : decode b_M_nextPart 159 = .ok (.ifCond .ne 6, 3) := by decide +kernel
theorem d_M_nextPart_162 : decode b_M_nextPart 162 = .ok (.goto 52, 3) := by decide +kernel
theorem d_M_nextPart_165 : decode b_M_nextPart 165 = .ok (.iconst 0, 1) := by decide +kernel
theorem d_M_nextPart_166 : decode b_M_nextPart 166 = .ok (.istore_n 3, 1) := by decide +kernel
theorem d_M_nextPart_167 : decode b_M_nextPart 167 = .ok (.iload_n 3, 1) := by decide +kernel
theorem d_M_nextPart_168 : decode b_M_nextPart 168 = .ok (.bipush 24, 2) := by decide +kernel
theorem d_M_nextPart_170 : decode b_M_nextPart 170 = .ok (.if_icmp .ge 34, 3) := by decide +kernel
theorem d_M_nextPart_173 : decode b_M_nextPart 173 = .ok (.aload_n 0, 1) := by decide +kernel
theorem d_M_nextPart_174 : decode b_M_nextPart 174 = .ok (.getfield 62, 3) := by decide +kernel
theorem d_M_nextPart_177 : decode b_M_nextPart 177 = .ok (.bipush 24, 2) := by decide +kernel
theorem d_M_nextPart_179 : decode b_M_nextPart 179 = .ok (.aload_n 0, 1) := by decide +kernel
theorem d_M_nextPart_180 : decode b_M_nextPart 180 = .ok (.getfield 97, 3) := by decide +kernel
theorem d_M_nextPart_183 : decode b_M_nextPart 183 = .ok (.imul, 1) := by decide +kernel
theorem d_M_nextPart_184 : decode b_M_nextPart 184 = .ok (.iload_n 3, 1) := by decide +kernel
theorem d_M_nextPart_185 : decode b_M_nextPart 185 = .ok (.iadd, 1) := by decide +kernel
theorem d_M_nextPart_186 : decode b_M_nextPart 186 = .ok (.aload_n 0, 1) := by decide +kernel
theorem d_M_nextPart_187 : decode b_M_nextPart 187 = .ok (.getfield 32, 3) := by decide +kernel
theorem d_M_nextPart_190 : decode b_M_nextPart 190 = .ok (.bipush 24, 2) := by decide +kernel
theorem d_M_nextPart_192 : decode b_M_nextPart 192 = .ok (.iload_n 2, 1) := by decide +kernel
theorem d_M_nextPart_193 : decode b_M_nextPart 193 = .ok (.imul, 1) := by decide +kernel
theorem d_M_nextPart_194 : decode b_M_nextPart 194 = .ok (.iload_n 3, 1) := by decide +kernel
theorem d_M_nextPart_195 : decode b_M_nextPart 195 = .ok (.iadd, 1) := by decide +kernel
theorem d_M_nextPart_196 : decode b_M_nextPart 196 = .ok (.iaload, 1) := by decide +kernel
theorem d_M_nextPart_197 : decode b_M_nextPart 197 = .ok (.iastore, 1) := by decide +kernel
theorem d_M_nextPart_198 : decode b_M_nextPart 198 = .ok (.iinc 3 1, 3) := by decide +kernel
theorem d_M_nextPart_201 : decode b_M_nextPart 201 = .ok (.goto (-34), 3) := by decide +kernel
theorem d_M_nextPart_204 : decode b_M_nextPart 204 = .ok (.aload_n 0, 1) := by decide +kernel
theorem d_M_nextPart_205 : decode b_M_nextPart 205 = .ok (.dup, 1) := by decide +kernel
theorem d_M_nextPart_206 : decode b_M_nextPart 206 = .ok (.getfield 97, 3) := by decide +kernel
theorem d_M_nextPart_209 : decode b_M_nextPart 209 = .ok (.iconst 1, 1) := by decide +kernel
theorem d_M_nextPart_210 : decode b_M_nextPart 210 = .ok (.iadd, 1) := by decide +kernel
theorem d_M_nextPart_211 : decode b_M_nextPart 211 = .ok (.putfield 97, 3) := by decide +kernel
theorem d_M_nextPart_214 : decode b_M_nextPart 214 = .ok (.iinc 2 1, 3) := by decide +kernel
theorem d_M_nextPart_217 : decode b_M_nextPart 217 = .ok (.goto (-70), 3) := by decide +kernel
theorem d_M_nextPart_220 : decode b_M_nextPart 220 = .ok (.iconst 0, 1) := by decide +kernel
theorem d_M_nextPart_221 : decode b_M_nextPart 221 = .ok (.istore_n 2, 1) := by decide +kernel
theorem d_M_nextPart_222 : decode b_M_nextPart 222 = .ok (.iload_n 2, 1) := by decide +kernel
theorem d_M_nextPart_223 : decode b_M_nextPart 223 = .ok (.bipush 24, 2) := by decide +kernel
theorem d_M_nextPart_225 : decode b_M_nextPart 225 = .ok (.aload_n 0, 1) := by decide +kernel
theorem d_M_nextPart_226 : decode b_M_nextPart 226 = .ok (.getfield 97, 3) := by decide +kernel
theorem d_M_nextPart_229 : decode b_M_nextPart 229 = .ok (.imul, 1) := by decide +kernel
theorem d_M_nextPart_230 : decode b_M_nextPart 230 = .ok (.if_icmp .ge 21, 3) := by decide +kernel
theorem d_M_nextPart_233 : decode b_M_nextPart 233 = .ok (.aload_n 0, 1) := by decide +kernel
theorem d_M_nextPart_234 : decode b_M_nextPart 234 = .ok (.getfield 23, 3) := by decide +kernel
theorem d_M_nextPart_237 : decode b_M_nextPart 237 = .ok (.iload_n 2, 1) := by decide +kernel
theorem d_M_nextPart_238 : decode b_M_nextPart 238 = .ok (.aload_n 0, 1) := by decide +kernel
theorem d_M_nextPart_239 : decode b_M_nextPart 239 = .ok (.getfield 62, 3) := by decide +kernel
theorem d_M_nextPart_242 : decode b_M_nextPart 242 = .ok (.iload_n 2, 1) := by decide +kernel
theorem d_M_nextPart_243 : decode b_M_nextPart 243 = .ok (.iaload, 1) := by decide +kernel
theorem d_M_nextPart_244 : decode b_M_nextPart 244 = .ok (.iastore, 1) := by decide +kernel
theorem d_M_nextPart_245 : decode b_M_nextPart 245 = .ok (.iinc 2 1, 3) := by decide +kernel
theorem d_M_nextPart_248 : decode b_M_nextPart 248 = .ok (.goto (-26), 3) := by decide +kernel
theorem d_M_nextPart_251 : decode b_M_nextPart 251 = .ok (.return_, 1) := by decide +kernel
theorem d_M_know_0 : decode b_M_know 0 = .ok (.aload_n 0, 1) := by decide +kernel
theorem d_M_know_1 : decode b_M_know 1 = .ok (.getfield 82, 3) := by decide +kernel
theorem d_M_know_4 : decode b_M_know 4 = .ok (.ifCond .eq 4, 3) := by decide +kernel
theorem d_M_know_7 : decode b_M_know 7 = .ok (.return_, 1) := by decide +kernel
theorem d_M_know_8 : decode b_M_know 8 = .ok (.aload_n 0, 1) := by decide +kernel
theorem d_M_know_9 : decode b_M_know 9 = .ok (.iconst 1, 1) := by decide +kernel
theorem d_M_know_10 : decode b_M_know 10 = .ok (.putfield 82, 3) := by decide +kernel
theorem d_M_know_13 : decode b_M_know 13 = .ok (.aload_n 0, 1) := by decide +kernel
theorem d_M_know_14 : decode b_M_know 14 = .ok (.aload_n 0, 1) := by decide +kernel
theorem d_M_know_15 : decode b_M_know 15 = .ok (.getfield 75, 3) := by decide +kernel
theorem d_M_know_18 : decode b_M_know 18 = .ok (.putfield 97, 3) := by decide +kernel
theorem d_M_know_21 : decode b_M_know 21 = .ok (.iconst 0, 1) := by decide +kernel
theorem d_M_know_22 : decode b_M_know 22 = .ok (.istore_n 1, 1) := by decide +kernel
theorem d_M_know_23 : decode b_M_know 23 = .ok (.iload_n 1, 1) := by decide +kernel
theorem d_M_know_24 : decode b_M_know 24 = .ok (.bipush 24, 2) := by decide +kernel
theorem d_M_know_26 : decode b_M_know 26 = .ok (.aload_n 0, 1) := by decide +kernel
theorem d_M_know_27 : decode b_M_know 27 = .ok (.getfield 75, 3) := by decide +kernel
theorem d_M_know_30 : decode b_M_know 30 = .ok (.imul, 1) := by decide +kernel
theorem d_M_know_31 : decode b_M_know 31 = .ok (.if_icmp .ge 21, 3) := by decide +kernel
theorem d_M_know_34 : decode b_M_know 34 = .ok (.aload_n 0, 1) := by decide +kernel
theorem d_M_know_35 : decode b_M_know 35 = .ok (.getfield 23, 3) := by decide +kernel
theorem d_M_know_38 : decode b_M_know 38 = .ok (.iload_n 1, 1) := by decide +kernel
theorem d_M_know_39 : decode b_M_know 39 = .ok (.aload_n 0, 1) := by decide +kernel
theorem d_M_know_40 : decode b_M_know 40 = .ok (.getfield 7, 3) := by decide +kernel
theorem d_M_know_43 : decode b_M_know 43 = .ok (.iload_n 1, 1) := by decide +kernel
theorem d_M_know_44 : decode b_M_know 44 = .ok (.iaload, 1) := by decide +kernel
theorem d_M_know_45 : decode b_M_know 45 = .ok (.iastore, 1) := by decide +kernel
theorem d_M_know_46 : decode b_M_know 46 = .ok (.iinc 1 1, 3) := by decide +kernel
theorem d_M_know_49 : decode b_M_know 49 = .ok (.goto (-26), 3) := by decide +kernel
theorem d_M_know_52 : decode b_M_know 52 = .ok (.iconst 0, 1) := by decide +kernel
theorem d_M_know_53 : decode b_M_know 53 = .ok (.istore_n 1, 1) := by decide +kernel
theorem d_M_know_54 : decode b_M_know 54 = .ok (.iload_n 1, 1) := by decide +kernel
theorem d_M_know_55 : decode b_M_know 55 = .ok (.aload_n 0, 1) := by decide +kernel
theorem d_M_know_56 : decode b_M_know 56 = .ok (.getfield 65, 3) := by decide +kernel
theorem d_M_know_59 : decode b_M_know 59 = .ok (.if_icmp .ge 19, 3) := by decide +kernel
theorem d_M_know_62 : decode b_M_know 62 = .ok (.aload_n 0, 1) := by decide +kernel
theorem d_M_know_63 : decode b_M_know 63 = .ok (.iload_n 1, 1) := by decide +kernel
theorem d_M_know_64 : decode b_M_know 64 = .ok (.invokevirtual 128, 3) := by decide +kernel
theorem d_M_know_67 : decode b_M_know 67 = .ok (.aload_n 0, 1) := by decide +kernel
theorem d_M_know_68 : decode b_M_know 68 = .ok (.iload_n 1, 1) := by decide +kernel
theorem d_M_know_69 : decode b_M_know 69 = .ok (.invokevirtual 132, 3) := by decide +kernel
theorem d_M_know_72 : decode b_M_know 72 = .ok (.iinc 1 1, 3) := by decide +kernel
theorem d_M_know_75 : decode b_M_know 75 = .ok (.goto (-21), 3) := by decide +kernel
theorem d_M_know_78 : decode b_M_know 78 = .ok (.return_, 1) := by decide +kernel
theorem d_M_spreadSize_0 : decode b_M_spreadSize 0 = .ok (.iconst 0, 1) := by decide +kernel
theorem d_M_spreadSize_1 : decode b_M_spreadSize 1 = .ok (.istore_n 2, 1) := by decide +kernel
theorem d_M_spreadSize_2 : decode b_M_spreadSize 2 = .ok (.iconst 0, 1) := by decide +kernel
theorem d_M_spreadSize_3 : decode b_M_spreadSize 3 = .ok (.istore_n 3, 1) := by decide +kernel
theorem d_M_spreadSize_4 : decode b_M_spreadSize 4 = .ok (.iload_n 3, 1) := by decide +kernel
theorem d_M_spreadSize_5 : decode b_M_spreadSize 5 = .ok (.aload_n 0, 1) := by decide +kernel
theorem d_M_spreadSize_6 : decode b_M_spreadSize 6 = .ok (.getfield 65, 3) := by decide +kernel
theorem d_M_spreadSize_9 : decode b_M_spreadSize 9 = .ok (.if_icmp .ge 31, 3) := by decide +kernel
theorem d_M_spreadSize_12 : decode b_M_spreadSize 12 = .ok (.iload_n 2, 1) := by decide +kernel
theorem d_M_spreadSize_13 : decode b_M_spreadSize 13 = .ok (.aload_n 0, 1) := by decide +kernel
theorem d_M_spreadSize_14 : decode b_M_spreadSize 14 = .ok (.getfield 19, 3) := by decide +kernel
theorem d_M_spreadSize_17 : decode b_M_spreadSize 17 = .ok (.bipush 24, 2) := by decide +kernel
theorem d_M_spreadSize_19 : decode b_M_spreadSize 19 = .ok (.iload_n 1, 1) := by decide +kernel
theorem d_M_spreadSize_20 : decode b_M_spreadSize 20 = .ok (.imul, 1) := by decide +kernel
theorem d_M_spreadSize_21 : decode b_M_spreadSize 21 = .ok (.iload_n 3, 1) := by decide +kernel
theorem d_M_spreadSize_22 : decode b_M_spreadSize 22 = .ok (.iadd, 1) := by decide +kernel
theorem d_M_spreadSize_23 : decode b_M_spreadSize 23 = .ok (.baload, 1) := by decide +kernel
theorem d_M_spreadSize_24 : decode b_M_spreadSize 24 = .ok (.ifCond .eq 7, 3) := by decide +kernel
theorem d_M_spreadSize_27 : decode b_M_spreadSize 27 = .ok (.iconst 1, 1) := by decide +kernel
theorem d_M_spreadSize_28 : decode b_M_spreadSize 28 = .ok (.goto 4, 3) := by decide +kernel
theorem d_M_spreadSize_31 : decode b_M_spreadSize 31 = .ok (.iconst 0, 1) := by decide +kernel
theorem d_M_spreadSize_32 : decode b_M_spreadSize 32 = .ok (.iadd, 1) := by decide +kernel
theorem d_M_spreadSize_33 : decode b_M_spreadSize 33 = .ok (.istore_n 2, 1) := by decide +kernel
theorem d_M_spreadSize_34 : decode b_M_spreadSize 34 = .ok (.iinc 3 1, 3) := by decide +kernel
theorem d_M_spreadSize_37 : decode b_M_spreadSize 37 = .ok (.goto (-33), 3) := by decide +kernel
theorem d_M_spreadSize_40 : decode b_M_spreadSize 40 = .ok (.iload_n 2, 1) := by decide +kernel
theorem d_M_spreadSize_41 : decode b_M_spreadSize 41 = .ok (.ireturn, 1) := by decide +kernel
theorem d_M_spread_0 : decode b_M_spread 0 = .ok (.aload_n 0, 1) := by decide +kernel
theorem d_M_spread_1 : decode b_M_spread 1 = .ok (.iconst 0, 1) := by decide +kernel
theorem d_M_spread_2 : decode b_M_spread 2 = .ok (.putfield 69, 3) := by decide +kernel
theorem d_M_spread_5 : decode b_M_spread 5 = .ok (.aload_n 0, 1) := by decide +kernel
theorem d_M_spread_6 : decode b_M_spread 6 = .ok (.iload_n 1, 1) := by decide +kernel
theorem d_M_spread_7 : decode b_M_spread 7 = .ok (.invokevirtual 78, 3) := by decide +kernel
theorem d_M_spread_10 : decode b_M_spread 10 = .ok (.ifCond .ne 5, 3) := by decide +kernel
theorem d_M_spread_13 : decode b_M_spread 13 = .ok (.iconst (-1), 1) := by decide +kernel
theorem d_M_spread_14 : decode b_M_spread 14 = .ok (.ireturn, 1) := by decide +kernel
theorem d_M_spread_15 : decode b_M_spread 15 = .ok (.aload_n 0, 1) := by decide +kernel
theorem d_M_spread_16 : decode b_M_spread 16 = .ok (.invokevirtual 135, 3) := by decide +kernel
theorem d_M_spread_19 : decode b_M_spread 19 = .ok (.aload_n 0, 1) := by decide +kernel
theorem d_M_spread_20 : decode b_M_spread 20 = .ok (.iload_n 1, 1) := by decide +kernel
theorem d_M_spread_21 : decode b_M_spread 21 = .ok (.invokevirtual 138, 3) := by decide +kernel
theorem d_M_spread_24 : decode b_M_spread 24 = .ok (.ireturn, 1) := by decide +kernel
theorem d_M_run_0 : decode b_M_run 0 = .ok (.aload_n 0, 1) := by decide +kernel
theorem d_M_run_1 : decode b_M_run 1 = .ok (.iconst 0, 1) := by decide +kernel
theorem d_M_run_2 : decode b_M_run 2 = .ok (.putfield 69, 3) := by decide +kernel
theorem d_M_run_5 : decode b_M_run 5 = .ok (.aload_n 0, 1) := by decide +kernel
theorem d_M_run_6 : decode b_M_run 6 = .ok (.invokevirtual 135, 3) := by decide +kernel
theorem d_M_run_9 : decode b_M_run 9 = .ok (.iconst 0, 1) := by decide +kernel
theorem d_M_run_10 : decode b_M_run 10 = .ok (.istore_n 1, 1) := by decide +kernel
theorem d_M_run_11 : decode b_M_run 11 = .ok (.iconst 0, 1) := by decide +kernel
theorem d_M_run_12 : decode b_M_run 12 = .ok (.istore_n 2, 1) := by decide +kernel
theorem d_M_run_13 : decode b_M_run 13 = .ok (.iload_n 2, 1) := by decide +kernel
theorem d_M_run_14 : decode b_M_run 14 = .ok (.aload_n 0, 1) := by decide +kernel
theorem d_M_run_15 : decode b_M_run 15 = .ok (.getfield 65, 3) := by decide +kernel
theorem d_M_run_18 : decode b_M_run 18 = .ok (.if_icmp .ge 26, 3) := by decide +kernel
theorem d_M_run_21 : decode b_M_run 21 = .ok (.iload_n 1, 1) := by decide +kernel
theorem d_M_run_22 : decode b_M_run 22 = .ok (.aload_n 0, 1) := by decide +kernel
theorem d_M_run_23 : decode b_M_run 23 = .ok (.iload_n 2, 1) := by decide +kernel
theorem d_M_run_24 : decode b_M_run 24 = .ok (.invokevirtual 138, 3) := by decide +kernel
theorem d_M_run_27 : decode b_M_run 27 = .ok (.iconst 1, 1) := by decide +kernel
theorem d_M_run_28 : decode b_M_run 28 = .ok (.if_icmp .le 7, 3) := by decide +kernel
theorem d_M_run_31 : decode b_M_run 31 = .ok (.iconst 1, 1) := by decide +kernel
theorem d_M_run_32 : decode b_M_run 32 = .ok (.goto 4, 3) := by decide +kernel
theorem d_M_run_35 : decode b_M_run 35 = .ok (.iconst 0, 1) := by decide +kernel
theorem d_M_run_36 : decode b_M_run 36 = .ok (.iadd, 1) := by decide +kernel
theorem d_M_run_37 : decode b_M_run 37 = .ok (.istore_n 1, 1) := by decide +kernel
theorem d_M_run_38 : decode b_M_run 38 = .ok (.iinc 2 1, 3) := by decide +kernel
theorem d_M_run_41 : decode b_M_run 41 = .ok (.goto (-28), 3) := by decide +kernel
theorem d_M_run_44 : decode b_M_run 44 = .ok (.iload_n 1, 1) := by decide +kernel
theorem d_M_run_45 : decode b_M_run 45 = .ok (.ireturn, 1) := by decide +kernel
theorem d_M_base_0 : decode b_M_base 0 = .ok (.aload_n 0, 1) := by decide +kernel
theorem d_M_base_1 : decode b_M_base 1 = .ok (.iconst 0, 1) := by decide +kernel
theorem d_M_base_2 : decode b_M_base 2 = .ok (.putfield 69, 3) := by decide +kernel
theorem d_M_base_5 : decode b_M_base 5 = .ok (.aload_n 0, 1) := by decide +kernel
theorem d_M_base_6 : decode b_M_base 6 = .ok (.invokevirtual 135, 3) := by decide +kernel
theorem d_M_base_9 : decode b_M_base 9 = .ok (.iconst 0, 1) := by decide +kernel
theorem d_M_base_10 : decode b_M_base 10 = .ok (.istore_n 2, 1) := by decide +kernel
theorem d_M_base_11 : decode b_M_base 11 = .ok (.iconst 0, 1) := by decide +kernel
theorem d_M_base_12 : decode b_M_base 12 = .ok (.istore_n 3, 1) := by decide +kernel
theorem d_M_base_13 : decode b_M_base 13 = .ok (.iload_n 3, 1) := by decide +kernel
theorem d_M_base_14 : decode b_M_base 14 = .ok (.aload_n 0, 1) := by decide +kernel
theorem d_M_base_15 : decode b_M_base 15 = .ok (.getfield 65, 3) := by decide +kernel
theorem d_M_base_18 : decode b_M_base 18 = .ok (.if_icmp .ge 31, 3) := by decide +kernel
theorem d_M_base_21 : decode b_M_base 21 = .ok (.aload_n 0, 1) := by decide +kernel
theorem d_M_base_22 : decode b_M_base 22 = .ok (.iload_n 3, 1) := by decide +kernel
theorem d_M_base_23 : decode b_M_base 23 = .ok (.invokevirtual 138, 3) := by decide +kernel
theorem d_M_base_26 : decode b_M_base 26 = .ok (.iconst 2, 1) := by decide +kernel
theorem d_M_base_27 : decode b_M_base 27 = .ok (.if_icmp .ge 6, 3) := by decide +kernel
theorem d_M_base_30 : decode b_M_base 30 = .ok (.goto 13, 3) := by decide +kernel
theorem d_M_base_33 : decode b_M_base 33 = .ok (.iload_n 2, 1) := by decide +kernel
theorem d_M_base_34 : decode b_M_base 34 = .ok (.iload_n 1, 1) := by decide +kernel
theorem d_M_base_35 : decode b_M_base 35 = .ok (.if_icmp .ne 5, 3) := by decide +kernel
theorem d_M_base_38 : decode b_M_base 38 = .ok (.iload_n 3, 1) := by decide +kernel
theorem d_M_base_39 : decode b_M_base 39 = .ok (.ireturn, 1) := by decide +kernel
theorem d_M_base_40 : decode b_M_base 40 = .ok (.iinc 2 1, 3) := by decide +kernel
theorem d_M_base_43 : decode b_M_base 43 = .ok (.iinc 3 1, 3) := by decide +kernel
theorem d_M_base_46 : decode b_M_base 46 = .ok (.goto (-33), 3) := by decide +kernel
theorem d_M_base_49 : decode b_M_base 49 = .ok (.iconst (-1), 1) := by decide +kernel
theorem d_M_base_50 : decode b_M_base 50 = .ok (.ireturn, 1) := by decide +kernel
theorem d_M_digitOf_0 : decode b_M_digitOf 0 = .ok (.iconst 0, 1) := by decide +kernel
theorem d_M_digitOf_1 : decode b_M_digitOf 1 = .ok (.istore_n 3, 1) := by decide +kernel
theorem d_M_digitOf_2 : decode b_M_digitOf 2 = .ok (.iload_n 3, 1) := by decide +kernel
theorem d_M_digitOf_3 : decode b_M_digitOf 3 = .ok (.bipush 40, 2) := by decide +kernel
theorem d_M_digitOf_5 : decode b_M_digitOf 5 = .ok (.if_icmp .ge 16, 3) := by decide +kernel
theorem d_M_digitOf_8 : decode b_M_digitOf 8 = .ok (.aload_n 0, 1) := by decide +kernel
theorem d_M_digitOf_9 : decode b_M_digitOf 9 = .ok (.getfield 56, 3) := by decide +kernel
theorem d_M_digitOf_12 : decode b_M_digitOf 12 = .ok (.iload_n 3, 1) := by decide +kernel
theorem d_M_digitOf_13 : decode b_M_digitOf 13 = .ok (.iconst 0, 1) := by decide +kernel
theorem d_M_digitOf_14 : decode b_M_digitOf 14 = .ok (.iastore, 1) := by decide +kernel
theorem d_M_digitOf_15 : decode b_M_digitOf 15 = .ok (.iinc 3 1, 3) := by decide +kernel
theorem d_M_digitOf_18 : decode b_M_digitOf 18 = .ok (.goto (-16), 3) := by decide +kernel
theorem d_M_digitOf_21 : decode b_M_digitOf 21 = .ok (.aload_n 0, 1) := by decide +kernel
theorem d_M_digitOf_22 : decode b_M_digitOf 22 = .ok (.getfield 56, 3) := by decide +kernel
theorem d_M_digitOf_25 : decode b_M_digitOf 25 = .ok (.iconst 0, 1) := by decide +kernel
theorem d_M_digitOf_26 : decode b_M_digitOf 26 = .ok (.iconst 1, 1) := by decide +kernel
theorem d_M_digitOf_27 : decode b_M_digitOf 27 = .ok (.iastore, 1) := by decide +kernel
theorem d_M_digitOf_28 : decode b_M_digitOf 28 = .ok (.iconst 0, 1) := by decide +kernel
theorem d_M_digitOf_29 : decode b_M_digitOf 29 = .ok (.istore_n 3, 1) := by decide +kernel
theorem d_M_digitOf_30 : decode b_M_digitOf 30 = .ok (.iload_n 3, 1) := by decide +kernel
theorem d_M_digitOf_31 : decode b_M_digitOf 31 = .ok (.aload_n 0, 1) := by decide +kernel
theorem d_M_digitOf_32 : decode b_M_digitOf 32 = .ok (.getfield 65, 3) := by decide +kernel
theorem d_M_digitOf_35 : decode b_M_digitOf 35 = .ok (.if_icmp .ge 65, 3) := by decide +kernel
theorem d_M_digitOf_38 : decode b_M_digitOf 38 = .ok (.iconst 0, 1) := by decide +kernel
theorem d_M_digitOf_39 : decode b_M_digitOf 39 = .ok (.istore 4, 2) := by decide +kernel
theorem d_M_digitOf_41 : decode b_M_digitOf 41 = .ok (.iconst 0, 1) := by decide +kernel
theorem d_M_digitOf_42 : decode b_M_digitOf 42 = .ok (.istore 5, 2) := by decide +kernel
theorem d_M_digitOf_44 : decode b_M_digitOf 44 = .ok (.iload 5, 2) := by decide +kernel
theorem d_M_digitOf_46 : decode b_M_digitOf 46 = .ok (.bipush 40, 2) := by decide +kernel
theorem d_M_digitOf_48 : decode b_M_digitOf 48 = .ok (.if_icmp .ge 46, 3) := by decide +kernel
theorem d_M_digitOf_51 : decode b_M_digitOf 51 = .ok (.aload_n 0, 1) := by decide +kernel
theorem d_M_digitOf_52 : decode b_M_digitOf 52 = .ok (.getfield 56, 3) := by decide +kernel
theorem d_M_digitOf_55 : decode b_M_digitOf 55 = .ok (.iload 5, 2) := by decide +kernel
theorem d_M_digitOf_57 : decode b_M_digitOf 57 = .ok (.iaload, 1) := by decide +kernel
theorem d_M_digitOf_58 : decode b_M_digitOf 58 = .ok (.aload_n 0, 1) := by decide +kernel
theorem d_M_digitOf_59 : decode b_M_digitOf 59 = .ok (.iload_n 3, 1) := by decide +kernel
theorem d_M_digitOf_60 : decode b_M_digitOf 60 = .ok (.invokevirtual 138, 3) := by decide +kernel
theorem d_M_digitOf_63 : decode b_M_digitOf 63 = .ok (.imul, 1) := by decide +kernel
theorem d_M_digitOf_64 : decode b_M_digitOf 64 = .ok (.iload 4, 2) := by decide +kernel
theorem d_M_digitOf_66 : decode b_M_digitOf 66 = .ok (.iadd, 1) := by decide +kernel
theorem d_M_digitOf_67 : decode b_M_digitOf 67 = .ok (.istore 6, 2) := by decide +kernel
theorem d_M_digitOf_69 : decode b_M_digitOf 69 = .ok (.aload_n 0, 1) := by decide +kernel
theorem d_M_digitOf_70 : decode b_M_digitOf 70 = .ok (.getfield 56, 3) := by decide +kernel
theorem d_M_digitOf_73 : decode b_M_digitOf 73 = .ok (.iload 5, 2) := by decide +kernel
theorem d_M_digitOf_75 : decode b_M_digitOf 75 = .ok (.iload 6, 2) := by decide +kernel
theorem d_M_digitOf_77 : decode b_M_digitOf 77 = .ok (.bipush 10, 2) := by decide +kernel
theorem d_M_digitOf_79 : decode b_M_digitOf 79 = .ok (.irem, 1) := by decide +kernel
theorem d_M_digitOf_80 : decode b_M_digitOf 80 = .ok (.iastore, 1) := by decide +kernel
theorem d_M_digitOf_81 : decode b_M_digitOf 81 = .ok (.iload 6, 2) := by decide +kernel
theorem d_M_digitOf_83 : decode b_M_digitOf 83 = .ok (.bipush 10, 2) := by decide +kernel
theorem d_M_digitOf_85 : decode b_M_digitOf 85 = .ok (.idiv, 1) := by decide +kernel
theorem d_M_digitOf_86 : decode b_M_digitOf 86 = .ok (.istore 4, 2) := by decide +kernel
theorem d_M_digitOf_88 : decode b_M_digitOf 88 = .ok (.iinc 5 1, 3) := by decide +kernel
theorem d_M_digitOf_91 : decode b_M_digitOf 91 = .ok (.goto (-47), 3) := by decide +kernel
theorem d_M_digitOf_94 : decode b_M_digitOf 94 = .ok (.iinc 3 1, 3) := by decide +kernel
theorem d_M_digitOf_97 : decode b_M_digitOf 97 = .ok (.goto (-67), 3) := by decide +kernel
theorem d_M_digitOf_100 : decode b_M_digitOf 100 = .ok (.iconst 0, 1) := by decide +kernel
theorem d_M_digitOf_101 : decode b_M_digitOf 101 = .ok (.istore_n 3, 1) := by decide +kernel
theorem d_M_digitOf_102 : decode b_M_digitOf 102 = .ok (.bipush 39, 2) := by decide +kernel
theorem d_M_digitOf_104 : decode b_M_digitOf 104 = .ok (.istore 4, 2) := by decide +kernel
theorem d_M_digitOf_106 : decode b_M_digitOf 106 = .ok (.iload 4, 2) := by decide +kernel
theorem d_M_digitOf_108 : decode b_M_digitOf 108 = .ok (.ifCond .lt 39, 3) := by decide +kernel
theorem d_M_digitOf_111 : decode b_M_digitOf 111 = .ok (.bipush 10, 2) := by decide +kernel
theorem d_M_digitOf_113 : decode b_M_digitOf 113 = .ok (.iload_n 3, 1) := by decide +kernel
theorem d_M_digitOf_114 : decode b_M_digitOf 114 = .ok (.imul, 1) := by decide +kernel
theorem d_M_digitOf_115 : decode b_M_digitOf 115 = .ok (.aload_n 0, 1) := by decide +kernel
theorem d_M_digitOf_116 : decode b_M_digitOf 116 = .ok (.getfield 56, 3) := by decide +kernel
theorem d_M_digitOf_119 : decode b_M_digitOf 119 = .ok (.iload 4, 2) := by decide +kernel
theorem d_M_digitOf_121 : decode b_M_digitOf 121 = .ok (.iaload, 1) := by decide +kernel
theorem d_M_digitOf_122 : decode b_M_digitOf 122 = .ok (.iadd, 1) := by decide +kernel
theorem d_M_digitOf_123 : decode b_M_digitOf 123 = .ok (.istore 5, 2) := by decide +kernel
theorem d_M_digitOf_125 : decode b_M_digitOf 125 = .ok (.aload_n 0, 1) := by decide +kernel
theorem d_M_digitOf_126 : decode b_M_digitOf 126 = .ok (.getfield 56, 3) := by decide +kernel
theorem d_M_digitOf_129 : decode b_M_digitOf 129 = .ok (.iload 4, 2) := by decide +kernel
theorem d_M_digitOf_131 : decode b_M_digitOf 131 = .ok (.iload 5, 2) := by decide +kernel
theorem d_M_digitOf_133 : decode b_M_digitOf 133 = .ok (.iload_n 2, 1) := by decide +kernel
theorem d_M_digitOf_134 : decode b_M_digitOf 134 = .ok (.idiv, 1) := by decide +kernel
theorem d_M_digitOf_135 : decode b_M_digitOf 135 = .ok (.iastore, 1) := by decide +kernel
theorem d_M_digitOf_136 : decode b_M_digitOf 136 = .ok (.iload 5, 2) := by decide +kernel
theorem d_M_digitOf_138 : decode b_M_digitOf 138 = .ok (.iload_n 2, 1) := by decide +kernel
theorem d_M_digitOf_139 : decode b_M_digitOf 139 = .ok (.irem, 1) := by decide +kernel
theorem d_M_digitOf_140 : decode b_M_digitOf 140 = .ok (.istore_n 3, 1) := by decide +kernel
theorem d_M_digitOf_141 : decode b_M_digitOf 141 = .ok (.iinc 4 (-1), 3) := by decide +kernel
theorem d_M_digitOf_144 : decode b_M_digitOf 144 = .ok (.goto (-38), 3) := by decide +kernel
theorem d_M_digitOf_147 : decode b_M_digitOf 147 = .ok (.bipush 40, 2) := by decide +kernel
theorem d_M_digitOf_149 : decode b_M_digitOf 149 = .ok (.istore 4, 2) := by decide +kernel
theorem d_M_digitOf_151 : decode b_M_digitOf 151 = .ok (.iload 4, 2) := by decide +kernel
theorem d_M_digitOf_153 : decode b_M_digitOf 153 = .ok (.iconst 1, 1) := by decide +kernel
theorem d_M_digitOf_154 : decode b_M_digitOf 154 = .ok (.if_icmp .le 21, 3) := by decide +kernel
theorem d_M_digitOf_157 : decode b_M_digitOf 157 = .ok (.aload_n 0, 1) := by decide +kernel
theorem d_M_digitOf_158 : decode b_M_digitOf 158 = .ok (.getfield 56, 3) := by decide +kernel
theorem d_M_digitOf_161 : decode b_M_digitOf 161 = .ok (.iload 4, 2) := by decide +kernel
theorem d_M_digitOf_163 : decode b_M_digitOf 163 = .ok (.iconst 1, 1) := by decide +kernel
theorem d_M_digitOf_164 : decode b_M_digitOf 164 = .ok (.isub, 1) := by decide +kernel
theorem d_M_digitOf_165 : decode b_M_digitOf 165 = .ok (.iaload, 1) := by decide +kernel
theorem d_M_digitOf_166 : decode b_M_digitOf 166 = .ok (.ifCond .ne 9, 3) := by decide +kernel
theorem d_M_digitOf_169 : decode b_M_digitOf 169 = .ok (.iinc 4 (-1), 3) := by decide +kernel
theorem d_M_digitOf_172 : decode b_M_digitOf 172 = .ok (.goto (-21), 3) := by decide +kernel
theorem d_M_digitOf_175 : decode b_M_digitOf 175 = .ok (.iload_n 1, 1) := by decide +kernel
theorem d_M_digitOf_176 : decode b_M_digitOf 176 = .ok (.ifCond .lt 18, 3) := by decide +kernel
theorem d_M_digitOf_179 : decode b_M_digitOf 179 = .ok (.iload_n 1, 1) := by decide +kernel
theorem d_M_digitOf_180 : decode b_M_digitOf 180 = .ok (.iload 4, 2) := by decide +kernel
theorem d_M_digitOf_182 : decode b_M_digitOf 182 = .ok (.if_icmp .ge 12, 3) := by decide +kernel
theorem d_M_digitOf_185 : decode b_M_digitOf 185 = .ok (.aload_n 0, 1) := by decide +kernel
theorem d_M_digitOf_186 : decode b_M_digitOf 186 = .ok (.getfield 56, 3) := by decide +kernel
theorem d_M_digitOf_189 : decode b_M_digitOf 189 = .ok (.iload_n 1, 1) := by decide +kernel
theorem d_M_digitOf_190 : decode b_M_digitOf 190 = .ok (.iaload, 1) := by decide +kernel
theorem d_M_digitOf_191 : decode b_M_digitOf 191 = .ok (.goto 4, 3) := by decide +kernel
theorem d_M_digitOf_194 : decode b_M_digitOf 194 = .ok (.iconst (-1), 1) := by decide +kernel
theorem d_M_digitOf_195 : decode b_M_digitOf 195 = .ok (.ireturn, 1) := by decide +kernel
theorem d_M_order_0 : decode b_M_order 0 = .ok (.aload_n 0, 1) := by decide +kernel
theorem d_M_order_1 : decode b_M_order 1 = .ok (.iconst 0, 1) := by decide +kernel
theorem d_M_order_2 : decode b_M_order 2 = .ok (.putfield 69, 3) := by decide +kernel
theorem d_M_order_5 : decode b_M_order 5 = .ok (.aload_n 0, 1) := by decide +kernel
theorem d_M_order_6 : decode b_M_order 6 = .ok (.invokevirtual 135, 3) := by decide +kernel
theorem d_M_order_9 : decode b_M_order 9 = .ok (.aload_n 0, 1) := by decide +kernel
theorem d_M_order_10 : decode b_M_order 10 = .ok (.iload_n 1, 1) := by decide +kernel
theorem d_M_order_11 : decode b_M_order 11 = .ok (.iconst 1, 1) := by decide +kernel
theorem d_M_order_12 : decode b_M_order 12 = .ok (.invokevirtual 142, 3) := by decide +kernel
theorem d_M_order_15 : decode b_M_order 15 = .ok (.ireturn, 1) := by decide +kernel
theorem d_M_share_0 : decode b_M_share 0 = .ok (.iconst 0, 1) := by decide +kernel
theorem d_M_share_1 : decode b_M_share 1 = .ok (.istore_n 1, 1) := by decide +kernel
theorem d_M_share_2 : decode b_M_share 2 = .ok (.iload_n 1, 1) := by decide +kernel
theorem d_M_share_3 : decode b_M_share 3 = .ok (.bipush 24, 2) := by decide +kernel
theorem d_M_share_5 : decode b_M_share 5 = .ok (.if_icmp .ge 16, 3) := by decide +kernel
theorem d_M_share_8 : decode b_M_share 8 = .ok (.aload_n 0, 1) := by decide +kernel
theorem d_M_share_9 : decode b_M_share 9 = .ok (.getfield 53, 3) := by decide +kernel
theorem d_M_share_12 : decode b_M_share 12 = .ok (.iload_n 1, 1) := by decide +kernel
theorem d_M_share_13 : decode b_M_share 13 = .ok (.iload_n 1, 1) := by decide +kernel
theorem d_M_share_14 : decode b_M_share 14 = .ok (.iastore, 1) := by decide +kernel
theorem d_M_share_15 : decode b_M_share 15 = .ok (.iinc 1 1, 3) := by decide +kernel
theorem d_M_share_18 : decode b_M_share 18 = .ok (.goto (-16), 3) := by decide +kernel
theorem d_M_share_21 : decode b_M_share 21 = .ok (.return_, 1) := by decide +kernel
theorem d_M_joinSets_0 : decode b_M_joinSets 0 = .ok (.aload_n 0, 1) := by decide +kernel
theorem d_M_joinSets_1 : decode b_M_joinSets 1 = .ok (.getfield 53, 3) := by decide +kernel
theorem d_M_joinSets_4 : decode b_M_joinSets 4 = .ok (.iload_n 1, 1) := by decide +kernel
theorem d_M_joinSets_5 : decode b_M_joinSets 5 = .ok (.iaload, 1) := by decide +kernel
theorem d_M_joinSets_6 : decode b_M_joinSets 6 = .ok (.aload_n 0, 1) := by decide +kernel
theorem d_M_joinSets_7 : decode b_M_joinSets 7 = .ok (.getfield 53, 3) := by decide +kernel
theorem d_M_joinSets_10 : decode b_M_joinSets 10 = .ok (.iload_n 2, 1) := by decide +kernel
theorem d_M_joinSets_11 : decode b_M_joinSets 11 = .ok (.iaload, 1) := by decide +kernel
theorem d_M_joinSets_12 : decode b_M_joinSets 12 = .ok (.if_icmp .le 12, 3) := by decide +kernel
theorem d_M_joinSets_15 : decode b_M_joinSets 15 = .ok (.aload_n 0, 1) := by decide +kernel
theorem d_M_joinSets_16 : decode b_M_joinSets 16 = .ok (.getfield 53, 3) := by decide +kernel
theorem d_M_joinSets_19 : decode b_M_joinSets 19 = .ok (.iload_n 1, 1) := by decide +kernel
theorem d_M_joinSets_20 : decode b_M_joinSets 20 = .ok (.iaload, 1) := by decide +kernel
theorem d_M_joinSets_21 : decode b_M_joinSets 21 = .ok (.goto 9, 3) := by decide +kernel
theorem d_M_joinSets_24 : decode b_M_joinSets 24 = .ok (.aload_n 0, 1) := by decide +kernel
theorem d_M_joinSets_25 : decode b_M_joinSets 25 = .ok (.getfield 53, 3) := by decide +kernel
theorem d_M_joinSets_28 : decode b_M_joinSets 28 = .ok (.iload_n 2, 1) := by decide +kernel
theorem d_M_joinSets_29 : decode b_M_joinSets 29 = .ok (.iaload, 1) := by decide +kernel
theorem d_M_joinSets_30 : decode b_M_joinSets 30 = .ok (.istore_n 3, 1) := by decide +kernel
theorem d_M_joinSets_31 : decode b_M_joinSets 31 = .ok (.aload_n 0, 1) := by decide +kernel
theorem d_M_joinSets_32 : decode b_M_joinSets 32 = .ok (.getfield 53, 3) := by decide +kernel
theorem d_M_joinSets_35 : decode b_M_joinSets 35 = .ok (.iload_n 1, 1) := by decide +kernel
theorem d_M_joinSets_36 : decode b_M_joinSets 36 = .ok (.iaload, 1) := by decide +kernel
theorem d_M_joinSets_37 : decode b_M_joinSets 37 = .ok (.aload_n 0, 1) := by decide +kernel
theorem d_M_joinSets_38 : decode b_M_joinSets 38 = .ok (.getfield 53, 3) := by decide +kernel
theorem d_M_joinSets_41 : decode b_M_joinSets 41 = .ok (.iload_n 2, 1) := by decide +kernel
theorem d_M_joinSets_42 : decode b_M_joinSets 42 = .ok (.iaload, 1) := by decide +kernel
theorem d_M_joinSets_43 : decode b_M_joinSets 43 = .ok (.if_icmp .le 12, 3) := by decide +kernel
theorem d_M_joinSets_46 : decode b_M_joinSets 46 = .ok (.aload_n 0, 1) := by decide +kernel
theorem d_M_joinSets_47 : decode b_M_joinSets 47 = .ok (.getfield 53, 3) := by decide +kernel
theorem d_M_joinSets_50 : decode b_M_joinSets 50 = .ok (.iload_n 2, 1) := by decide +kernel
theorem d_M_joinSets_51 : decode b_M_joinSets 51 = .ok (.iaload, 1) := by decide +kernel
theorem d_M_joinSets_52 : decode b_M_joinSets 52 = .ok (.goto 9, 3) := by decide +kernel
theorem d_M_joinSets_55 : decode b_M_joinSets 55 = .ok (.aload_n 0, 1) := by decide +kernel
theorem d_M_joinSets_56 : decode b_M_joinSets 56 = .ok (.getfield 53, 3) := by decide +kernel
theorem d_M_joinSets_59 : decode b_M_joinSets 59 = .ok (.iload_n 1, 1) := by decide +kernel
theorem d_M_joinSets_60 : decode b_M_joinSets 60 = .ok (.iaload, 1) := by decide +kernel
theorem d_M_joinSets_61 : decode b_M_joinSets 61 = .ok (.istore 4, 2) := by decide +kernel
theorem d_M_joinSets_63 : decode b_M_joinSets 63 = .ok (.iconst 0, 1) := by decide +kernel
theorem d_M_joinSets_64 : decode b_M_joinSets 64 = .ok (.istore 5, 2) := by decide +kernel
theorem d_M_joinSets_66 : decode b_M_joinSets 66 = .ok (.iload 5, 2) := by decide +kernel
theorem d_M_joinSets_68 : decode b_M_joinSets 68 = .ok (.bipush 24, 2) := by decide +kernel
theorem d_M_joinSets_70 : decode b_M_joinSets 70 = .ok (.if_icmp .ge 35, 3) := by decide +kernel
theorem d_M_joinSets_73 : decode b_M_joinSets 73 = .ok (.iload_n 3, 1) := by decide +kernel
theorem d_M_joinSets_74 : decode b_M_joinSets 74 = .ok (.iload 4, 2) := by decide +kernel
theorem d_M_joinSets_76 : decode b_M_joinSets 76 = .ok (.if_icmp .eq 29, 3) := by decide +kernel
theorem d_M_joinSets_79 : decode b_M_joinSets 79 = .ok (.aload_n 0, 1) := by decide +kernel
theorem d_M_joinSets_80 : decode b_M_joinSets 80 = .ok (.getfield 53, 3) := by decide +kernel
theorem d_M_joinSets_83 : decode b_M_joinSets 83 = .ok (.iload 5, 2) := by decide +kernel
theorem d_M_joinSets_85 : decode b_M_joinSets 85 = .ok (.iaload, 1) := by decide +kernel
theorem d_M_joinSets_86 : decode b_M_joinSets 86 = .ok (.iload_n 3, 1) := by decide +kernel
theorem d_M_joinSets_87 : decode b_M_joinSets 87 = .ok (.if_icmp .ne 12, 3) := by decide +kernel
theorem d_M_joinSets_90 : decode b_M_joinSets 90 = .ok (.aload_n 0, 1) := by decide +kernel
theorem d_M_joinSets_91 : decode b_M_joinSets 91 = .ok (.getfield 53, 3) := by decide +kernel
theorem d_M_joinSets_94 : decode b_M_joinSets 94 = .ok (.iload 5, 2) := by decide +kernel
theorem d_M_joinSets_96 : decode b_M_joinSets 96 = .ok (.iload 4, 2) := by decide +kernel
theorem d_M_joinSets_98 : decode b_M_joinSets 98 = .ok (.iastore, 1) := by decide +kernel
theorem d_M_joinSets_99 : decode b_M_joinSets 99 = .ok (.iinc 5 1, 3) := by decide +kernel
theorem d_M_joinSets_102 : decode b_M_joinSets 102 = .ok (.goto (-36), 3) := by decide +kernel
theorem d_M_joinSets_105 : decode b_M_joinSets 105 = .ok (.iload_n 3, 1) := by decide +kernel
theorem d_M_joinSets_106 : decode b_M_joinSets 106 = .ok (.iload 4, 2) := by decide +kernel
theorem d_M_joinSets_108 : decode b_M_joinSets 108 = .ok (.if_icmp .eq 7, 3) := by decide +kernel
theorem d_M_joinSets_111 : decode b_M_joinSets 111 = .ok (.iconst 1, 1) := by decide +kernel
theorem d_M_joinSets_112 : decode b_M_joinSets 112 = .ok (.goto 4, 3) := by decide +kernel
theorem d_M_joinSets_115 : decode b_M_joinSets 115 = .ok (.iconst 0, 1) := by decide +kernel
theorem d_M_joinSets_116 : decode b_M_joinSets 116 = .ok (.ireturn, 1) := by decide +kernel
theorem d_M_orbits_0 : decode b_M_orbits 0 = .ok (.aload_n 0, 1) := by decide +kernel
theorem d_M_orbits_1 : decode b_M_orbits 1 = .ok (.invokevirtual 146, 3) := by decide +kernel
theorem d_M_orbits_4 : decode b_M_orbits 4 = .ok (.iconst 0, 1) := by decide +kernel
theorem d_M_orbits_5 : decode b_M_orbits 5 = .ok (.istore_n 1, 1) := by decide +kernel
theorem d_M_orbits_6 : decode b_M_orbits 6 = .ok (.iload_n 1, 1) := by decide +kernel
theorem d_M_orbits_7 : decode b_M_orbits 7 = .ok (.aload_n 0, 1) := by decide +kernel
theorem d_M_orbits_8 : decode b_M_orbits 8 = .ok (.getfield 75, 3) := by decide +kernel
theorem d_M_orbits_11 : decode b_M_orbits 11 = .ok (.if_icmp .ge 42, 3) := by decide +kernel
theorem d_M_orbits_14 : decode b_M_orbits 14 = .ok (.iconst 0, 1) := by decide +kernel
theorem d_M_orbits_15 : decode b_M_orbits 15 = .ok (.istore_n 2, 1) := by decide +kernel
theorem d_M_orbits_16 : decode b_M_orbits 16 = .ok (.iload_n 2, 1) := by decide +kernel
theorem d_M_orbits_17 : decode b_M_orbits 17 = .ok (.aload_n 0, 1) := by decide +kernel
theorem d_M_orbits_18 : decode b_M_orbits 18 = .ok (.getfield 65, 3) := by decide +kernel
theorem d_M_orbits_21 : decode b_M_orbits 21 = .ok (.if_icmp .ge 26, 3) := by decide +kernel
theorem d_M_orbits_24 : decode b_M_orbits 24 = .ok (.aload_n 0, 1) := by decide +kernel
theorem d_M_orbits_25 : decode b_M_orbits 25 = .ok (.iload_n 2, 1) := by decide +kernel
theorem d_M_orbits_26 : decode b_M_orbits 26 = .ok (.aload_n 0, 1) := by decide +kernel
theorem d_M_orbits_27 : decode b_M_orbits 27 = .ok (.getfield 7, 3) := by decide +kernel
theorem d_M_orbits_30 : decode b_M_orbits 30 = .ok (.bipush 24, 2) := by decide +kernel
theorem d_M_orbits_32 : decode b_M_orbits 32 = .ok (.iload_n 1, 1) := by decide +kernel
theorem d_M_orbits_33 : decode b_M_orbits 33 = .ok (.imul, 1) := by decide +kernel
theorem d_M_orbits_34 : decode b_M_orbits 34 = .ok (.iload_n 2, 1) := by decide +kernel
theorem d_M_orbits_35 : decode b_M_orbits 35 = .ok (.iadd, 1) := by decide +kernel
theorem d_M_orbits_36 : decode b_M_orbits 36 = .ok (.iaload, 1) := by decide +kernel
theorem d_M_orbits_37 : decode b_M_orbits 37 = .ok (.invokevirtual 149, 3) := by decide +kernel
theorem d_M_orbits_40 : decode b_M_orbits 40 = .ok (.pop, 1) := by decide +kernel
theorem d_M_orbits_41 : decode b_M_orbits 41 = .ok (.iinc 2 1, 3) := by decide +kernel
theorem d_M_orbits_44 : decode b_M_orbits 44 = .ok (.goto (-28), 3) := by decide +kernel
theorem d_M_orbits_47 : decode b_M_orbits 47 = .ok (.iinc 1 1, 3) := by decide +kernel
theorem d_M_orbits_50 : decode b_M_orbits 50 = .ok (.goto (-44), 3) := by decide +kernel
theorem d_M_orbits_53 : decode b_M_orbits 53 = .ok (.return_, 1) := by decide +kernel
theorem d_M_sizeOf_0 : decode b_M_sizeOf 0 = .ok (.iconst 0, 1) := by decide +kernel
theorem d_M_sizeOf_1 : decode b_M_sizeOf 1 = .ok (.istore_n 2, 1) := by decide +kernel
theorem d_M_sizeOf_2 : decode b_M_sizeOf 2 = .ok (.iconst 0, 1) := by decide +kernel
theorem d_M_sizeOf_3 : decode b_M_sizeOf 3 = .ok (.istore_n 3, 1) := by decide +kernel
theorem d_M_sizeOf_4 : decode b_M_sizeOf 4 = .ok (.iload_n 3, 1) := by decide +kernel
theorem d_M_sizeOf_5 : decode b_M_sizeOf 5 = .ok (.aload_n 0, 1) := by decide +kernel
theorem d_M_sizeOf_6 : decode b_M_sizeOf 6 = .ok (.getfield 65, 3) := by decide +kernel
theorem d_M_sizeOf_9 : decode b_M_sizeOf 9 = .ok (.if_icmp .ge 32, 3) := by decide +kernel
theorem d_M_sizeOf_12 : decode b_M_sizeOf 12 = .ok (.iload_n 2, 1) := by decide +kernel
theorem d_M_sizeOf_13 : decode b_M_sizeOf 13 = .ok (.aload_n 0, 1) := by decide +kernel
theorem d_M_sizeOf_14 : decode b_M_sizeOf 14 = .ok (.getfield 53, 3) := by decide +kernel
theorem d_M_sizeOf_17 : decode b_M_sizeOf 17 = .ok (.iload_n 3, 1) := by decide +kernel
theorem d_M_sizeOf_18 : decode b_M_sizeOf 18 = .ok (.iaload, 1) := by decide +kernel
theorem d_M_sizeOf_19 : decode b_M_sizeOf 19 = .ok (.aload_n 0, 1) := by decide +kernel
theorem d_M_sizeOf_20 : decode b_M_sizeOf 20 = .ok (.getfield 53, 3) := by decide +kernel
theorem d_M_sizeOf_23 : decode b_M_sizeOf 23 = .ok (.iload_n 1, 1) := by decide +kernel
theorem d_M_sizeOf_24 : decode b_M_sizeOf 24 = .ok (.iaload, 1) := by decide +kernel
theorem d_M_sizeOf_25 : decode b_M_sizeOf 25 = .ok (.if_icmp .ne 7, 3) := by decide +kernel
theorem d_M_sizeOf_28 : decode b_M_sizeOf 28 = .ok (.iconst 1, 1) := by decide +kernel
theorem d_M_sizeOf_29 : decode b_M_sizeOf 29 = .ok (.goto 4, 3) := by decide +kernel
theorem d_M_sizeOf_32 : decode b_M_sizeOf 32 = .ok (.iconst 0, 1) := by decide +kernel
theorem d_M_sizeOf_33 : decode b_M_sizeOf 33 = .ok (.iadd, 1) := by decide +kernel
theorem d_M_sizeOf_34 : decode b_M_sizeOf 34 = .ok (.istore_n 2, 1) := by decide +kernel
theorem d_M_sizeOf_35 : decode b_M_sizeOf 35 = .ok (.iinc 3 1, 3) := by decide +kernel
theorem d_M_sizeOf_38 : decode b_M_sizeOf 38 = .ok (.goto (-34), 3) := by decide +kernel
theorem d_M_sizeOf_41 : decode b_M_sizeOf 41 = .ok (.iload_n 2, 1) := by decide +kernel
theorem d_M_sizeOf_42 : decode b_M_sizeOf 42 = .ok (.ireturn, 1) := by decide +kernel
theorem d_M_orbit_0 : decode b_M_orbit 0 = .ok (.aload_n 0, 1) := by decide +kernel
theorem d_M_orbit_1 : decode b_M_orbit 1 = .ok (.iconst 0, 1) := by decide +kernel
theorem d_M_orbit_2 : decode b_M_orbit 2 = .ok (.putfield 69, 3) := by decide +kernel
theorem d_M_orbit_5 : decode b_M_orbit 5 = .ok (.aload_n 0, 1) := by decide +kernel
theorem d_M_orbit_6 : decode b_M_orbit 6 = .ok (.iload_n 1, 1) := by decide +kernel
theorem d_M_orbit_7 : decode b_M_orbit 7 = .ok (.invokevirtual 78, 3) := by decide +kernel
theorem d_M_orbit_10 : decode b_M_orbit 10 = .ok (.ifCond .ne 5, 3) := by decide +kernel
theorem d_M_orbit_13 : decode b_M_orbit 13 = .ok (.iconst (-1), 1) := by decide +kernel
theorem d_M_orbit_14 : decode b_M_orbit 14 = .ok (.ireturn, 1) := by decide +kernel
theorem d_M_orbit_15 : decode b_M_orbit 15 = .ok (.aload_n 0, 1) := by decide +kernel
theorem d_M_orbit_16 : decode b_M_orbit 16 = .ok (.invokevirtual 152, 3) := by decide +kernel
theorem d_M_orbit_19 : decode b_M_orbit 19 = .ok (.aload_n 0, 1) := by decide +kernel
theorem d_M_orbit_20 : decode b_M_orbit 20 = .ok (.getfield 53, 3) := by decide +kernel
theorem d_M_orbit_23 : decode b_M_orbit 23 = .ok (.iload_n 1, 1) := by decide +kernel
theorem d_M_orbit_24 : decode b_M_orbit 24 = .ok (.iaload, 1) := by decide +kernel
theorem d_M_orbit_25 : decode b_M_orbit 25 = .ok (.ireturn, 1) := by decide +kernel
theorem d_M_stabiliser_0 : decode b_M_stabiliser 0 = .ok (.aload_n 0, 1) := by decide +kernel
theorem d_M_stabiliser_1 : decode b_M_stabiliser 1 = .ok (.iconst 0, 1) := by decide +kernel
theorem d_M_stabiliser_2 : decode b_M_stabiliser 2 = .ok (.putfield 69, 3) := by decide +kernel
theorem d_M_stabiliser_5 : decode b_M_stabiliser 5 = .ok (.aload_n 0, 1) := by decide +kernel
theorem d_M_stabiliser_6 : decode b_M_stabiliser 6 = .ok (.iload_n 1, 1) := by decide +kernel
theorem d_M_stabiliser_7 : decode b_M_stabiliser 7 = .ok (.invokevirtual 78, 3) := by decide +kernel
theorem d_M_stabiliser_10 : decode b_M_stabiliser 10 = .ok (.ifCond .ne 5, 3) := by decide +kernel
theorem d_M_stabiliser_13 : decode b_M_stabiliser 13 = .ok (.iconst (-1), 1) := by decide +kernel
theorem d_M_stabiliser_14 : decode b_M_stabiliser 14 = .ok (.ireturn, 1) := by decide +kernel
theorem d_M_stabiliser_15 : decode b_M_stabiliser 15 = .ok (.aload_n 0, 1) := by decide +kernel
theorem d_M_stabiliser_16 : decode b_M_stabiliser 16 = .ok (.invokevirtual 135, 3) := by decide +kernel
theorem d_M_stabiliser_19 : decode b_M_stabiliser 19 = .ok (.aload_n 0, 1) := by decide +kernel
theorem d_M_stabiliser_20 : decode b_M_stabiliser 20 = .ok (.invokevirtual 152, 3) := by decide +kernel
theorem d_M_stabiliser_23 : decode b_M_stabiliser 23 = .ok (.aload_n 0, 1) := by decide +kernel
theorem d_M_stabiliser_24 : decode b_M_stabiliser 24 = .ok (.iload_n 2, 1) := by decide +kernel
theorem d_M_stabiliser_25 : decode b_M_stabiliser 25 = .ok (.aload_n 0, 1) := by decide +kernel
theorem d_M_stabiliser_26 : decode b_M_stabiliser 26 = .ok (.iload_n 1, 1) := by decide +kernel
theorem d_M_stabiliser_27 : decode b_M_stabiliser 27 = .ok (.invokevirtual 155, 3) := by decide +kernel
theorem d_M_stabiliser_30 : decode b_M_stabiliser 30 = .ok (.invokevirtual 142, 3) := by decide +kernel
theorem d_M_stabiliser_33 : decode b_M_stabiliser 33 = .ok (.ireturn, 1) := by decide +kernel
theorem d_M_block_0 : decode b_M_block 0 = .ok (.aload_n 0, 1) := by decide +kernel
theorem d_M_block_1 : decode b_M_block 1 = .ok (.iconst 0, 1) := by decide +kernel
theorem d_M_block_2 : decode b_M_block 2 = .ok (.putfield 69, 3) := by decide +kernel
theorem d_M_block_5 : decode b_M_block 5 = .ok (.aload_n 0, 1) := by decide +kernel
theorem d_M_block_6 : decode b_M_block 6 = .ok (.iload_n 1, 1) := by decide +kernel
theorem d_M_block_7 : decode b_M_block 7 = .ok (.invokevirtual 78, 3) := by decide +kernel
theorem d_M_block_10 : decode b_M_block 10 = .ok (.ifCond .eq 11, 3) := by decide +kernel
theorem d_M_block_13 : decode b_M_block 13 = .ok (.aload_n 0, 1) := by decide +kernel
theorem d_M_block_14 : decode b_M_block 14 = .ok (.iload_n 2, 1) := by decide +kernel
theorem d_M_block_15 : decode b_M_block 15 = .ok (.invokevirtual 78, 3) := by decide +kernel
theorem d_M_block_18 : decode b_M_block 18 = .ok (.ifCond .ne 5, 3) := by decide +kernel
theorem d_M_block_21 : decode b_M_block 21 = .ok (.iconst (-1), 1) := by decide +kernel
theorem d_M_block_22 : decode b_M_block 22 = .ok (.ireturn, 1) := by decide +kernel
theorem d_M_block_23 : decode b_M_block 23 = .ok (.aload_n 0, 1) := by decide +kernel
theorem d_M_block_24 : decode b_M_block 24 = .ok (.invokevirtual 146, 3) := by decide +kernel
theorem d_M_block_27 : decode b_M_block 27 = .ok (.aload_n 0, 1) := by decide +kernel
theorem d_M_block_28 : decode b_M_block 28 = .ok (.iload_n 1, 1) := by decide +kernel
theorem d_M_block_29 : decode b_M_block 29 = .ok (.iload_n 2, 1) := by decide +kernel
theorem d_M_block_30 : decode b_M_block 30 = .ok (.invokevirtual 149, 3) := by decide +kernel
theorem d_M_block_33 : decode b_M_block 33 = .ok (.pop, 1) := by decide +kernel
theorem d_M_block_34 : decode b_M_block 34 = .ok (.iconst 1, 1) := by decide +kernel
theorem d_M_block_35 : decode b_M_block 35 = .ok (.istore_n 3, 1) := by decide +kernel
theorem d_M_block_36 : decode b_M_block 36 = .ok (.iload_n 3, 1) := by decide +kernel
theorem d_M_block_37 : decode b_M_block 37 = .ok (.ifCond .eq 92, 3) := by decide +kernel
theorem d_M_block_40 : decode b_M_block 40 = .ok (.iconst 0, 1) := by decide +kernel
theorem d_M_block_41 : decode b_M_block 41 = .ok (.istore_n 3, 1) := by decide +kernel
theorem d_M_block_42 : decode b_M_block 42 = .ok (.iconst 0, 1) := by decide +kernel
theorem d_M_block_43 : decode b_M_block 43 = .ok (.istore 4, 2) := by decide +kernel
theorem d_M_block_45 : decode b_M_block 45 = .ok (.iload 4, 2) := by decide +kernel
theorem d_M_block_47 : decode b_M_block 47 = .ok (.aload_n 0, 1) := by decide +kernel
theorem d_M_block_48 : decode b_M_block 48 = .ok (.getfield 75, 3) := by decide +kernel
theorem d_M_block_51 : decode b_M_block 51 = .ok (.if_icmp .ge 75, 3) := by decide +kernel
theorem d_M_block_54 : decode b_M_block 54 = .ok (.iconst 0, 1) := by decide +kernel
theorem d_M_block_55 : decode b_M_block 55 = .ok (.istore 5, 2) := by decide +kernel
theorem d_M_block_57 : decode b_M_block 57 = .ok (.iload 5, 2) := by decide +kernel
theorem d_M_block_59 : decode b_M_block 59 = .ok (.aload_n 0, 1) := by decide +kernel
theorem d_M_block_60 : decode b_M_block 60 = .ok (.getfield 65, 3) := by decide +kernel
theorem d_M_block_63 : decode b_M_block 63 = .ok (.if_icmp .ge 57, 3) := by decide +kernel
theorem d_M_block_66 : decode b_M_block 66 = .ok (.aload_n 0, 1) := by decide +kernel
theorem d_M_block_67 : decode b_M_block 67 = .ok (.aload_n 0, 1) := by decide +kernel
theorem d_M_block_68 : decode b_M_block 68 = .ok (.getfield 7, 3) := by decide +kernel
theorem d_M_block_71 : decode b_M_block 71 = .ok (.bipush 24, 2) := by decide +kernel
theorem d_M_block_73 : decode b_M_block 73 = .ok (.iload 4, 2) := by decide +kernel
theorem d_M_block_75 : decode b_M_block 75 = .ok (.imul, 1) := by decide +kernel
theorem d_M_block_76 : decode b_M_block 76 = .ok (.iload 5, 2) := by decide +kernel
theorem d_M_block_78 : decode b_M_block 78 = .ok (.iadd, 1) := by decide +kernel
theorem d_M_block_79 : decode b_M_block 79 = .ok (.iaload, 1) := by decide +kernel
theorem d_M_block_80 : decode b_M_block 80 = .ok (.aload_n 0, 1) := by decide +kernel
theorem d_M_block_81 : decode b_M_block 81 = .ok (.getfield 7, 3) := by decide +kernel
theorem d_M_block_84 : decode b_M_block 84 = .ok (.bipush 24, 2) := by decide +kernel
theorem d_M_block_86 : decode b_M_block 86 = .ok (.iload 4, 2) := by decide +kernel
theorem d_M_block_88 : decode b_M_block 88 = .ok (.imul, 1) := by decide +kernel
theorem d_M_block_89 : decode b_M_block 89 = .ok (.aload_n 0, 1) := by decide +kernel
theorem d_M_block_90 : decode b_M_block 90 = .ok (.getfield 53, 3) := by decide +kernel
theorem d_M_block_93 : decode b_M_block 93 = .ok (.iload 5, 2) := by decide +kernel
theorem d_M_block_95 : decode b_M_block 95 = .ok (.iaload, 1) := by decide +kernel
theorem d_M_block_96 : decode b_M_block 96 = .ok (.iadd, 1) := by decide +kernel
theorem d_M_block_97 : decode b_M_block 97 = .ok (.iaload, 1) := by decide +kernel
theorem d_M_block_98 : decode b_M_block 98 = .ok (.invokevirtual 149, 3) := by decide +kernel
theorem d_M_block_101 : decode b_M_block 101 = .ok (.ifCond .ne 7, 3) := by decide +kernel
theorem d_M_block_104 : decode b_M_block 104 = .ok (.iload_n 3, 1) := by decide +kernel
theorem d_M_block_105 : decode b_M_block 105 = .ok (.ifCond .eq 7, 3) := by decide +kernel
theorem d_M_block_108 : decode b_M_block 108 = .ok (.iconst 1, 1) := by decide +kernel
theorem d_M_block_109 : decode b_M_block 109 = .ok (.goto 4, 3) := by decide +kernel
theorem d_M_block_112 : decode b_M_block 112 = .ok (.iconst 0, 1) := by decide +kernel
theorem d_M_block_113 : decode b_M_block 113 = .ok (.istore_n 3, 1) := by decide +kernel
theorem d_M_block_114 : decode b_M_block 114 = .ok (.iinc 5 1, 3) := by decide +kernel
theorem d_M_block_117 : decode b_M_block 117 = .ok (.goto (-60), 3) := by decide +kernel
theorem d_M_block_120 : decode b_M_block 120 = .ok (.iinc 4 1, 3) := by decide +kernel
theorem d_M_block_123 : decode b_M_block 123 = .ok (.goto (-78), 3) := by decide +kernel
theorem d_M_block_126 : decode b_M_block 126 = .ok (.goto (-90), 3) := by decide +kernel
theorem d_M_block_129 : decode b_M_block 129 = .ok (.aload_n 0, 1) := by decide +kernel
theorem d_M_block_130 : decode b_M_block 130 = .ok (.iload_n 1, 1) := by decide +kernel
theorem d_M_block_131 : decode b_M_block 131 = .ok (.invokevirtual 155, 3) := by decide +kernel
theorem d_M_block_134 : decode b_M_block 134 = .ok (.ireturn, 1) := by decide +kernel
theorem d_M_level_0 : decode b_M_level 0 = .ok (.aload_n 0, 1) := by decide +kernel
theorem d_M_level_1 : decode b_M_level 1 = .ok (.iconst 0, 1) := by decide +kernel
theorem d_M_level_2 : decode b_M_level 2 = .ok (.putfield 69, 3) := by decide +kernel
theorem d_M_level_5 : decode b_M_level 5 = .ok (.aload_n 0, 1) := by decide +kernel
theorem d_M_level_6 : decode b_M_level 6 = .ok (.iload_n 1, 1) := by decide +kernel
theorem d_M_level_7 : decode b_M_level 7 = .ok (.invokevirtual 86, 3) := by decide +kernel
theorem d_M_level_10 : decode b_M_level 10 = .ok (.ifCond .ne 5, 3) := by decide +kernel
theorem d_M_level_13 : decode b_M_level 13 = .ok (.iconst (-1), 1) := by decide +kernel
theorem d_M_level_14 : decode b_M_level 14 = .ok (.ireturn, 1) := by decide +kernel
theorem d_M_level_15 : decode b_M_level 15 = .ok (.aload_n 0, 1) := by decide +kernel
theorem d_M_level_16 : decode b_M_level 16 = .ok (.invokevirtual 135, 3) := by decide +kernel
theorem d_M_level_19 : decode b_M_level 19 = .ok (.iconst 0, 1) := by decide +kernel
theorem d_M_level_20 : decode b_M_level 20 = .ok (.istore_n 2, 1) := by decide +kernel
theorem d_M_level_21 : decode b_M_level 21 = .ok (.iload_n 2, 1) := by decide +kernel
theorem d_M_level_22 : decode b_M_level 22 = .ok (.bipush 24, 2) := by decide +kernel
theorem d_M_level_24 : decode b_M_level 24 = .ok (.if_icmp .ge 26, 3) := by decide +kernel
theorem d_M_level_27 : decode b_M_level 27 = .ok (.aload_n 0, 1) := by decide +kernel
theorem d_M_level_28 : decode b_M_level 28 = .ok (.getfield 47, 3) := by decide +kernel
theorem d_M_level_31 : decode b_M_level 31 = .ok (.iload_n 2, 1) := by decide +kernel
theorem d_M_level_32 : decode b_M_level 32 = .ok (.aload_n 0, 1) := by decide +kernel
theorem d_M_level_33 : decode b_M_level 33 = .ok (.getfield 13, 3) := by decide +kernel
theorem d_M_level_36 : decode b_M_level 36 = .ok (.bipush 24, 2) := by decide +kernel
theorem d_M_level_38 : decode b_M_level 38 = .ok (.iload_n 1, 1) := by decide +kernel
theorem d_M_level_39 : decode b_M_level 39 = .ok (.imul, 1) := by decide +kernel
theorem d_M_level_40 : decode b_M_level 40 = .ok (.iload_n 2, 1) := by decide +kernel
theorem d_M_level_41 : decode b_M_level 41 = .ok (.iadd, 1) := by decide +kernel
theorem d_M_level_42 : decode b_M_level 42 = .ok (.iaload, 1) := by decide +kernel
theorem d_M_level_43 : decode b_M_level 43 = .ok (.iastore, 1) := by decide +kernel
theorem d_M_level_44 : decode b_M_level 44 = .ok (.iinc 2 1, 3) := by decide +kernel
theorem d_M_level_47 : decode b_M_level 47 = .ok (.goto (-26), 3) := by decide +kernel
theorem d_M_level_50 : decode b_M_level 50 = .ok (.iconst 0, 1) := by decide +kernel
theorem d_M_level_51 : decode b_M_level 51 = .ok (.istore_n 2, 1) := by decide +kernel
theorem d_M_level_52 : decode b_M_level 52 = .ok (.iload_n 2, 1) := by decide +kernel
theorem d_M_level_53 : decode b_M_level 53 = .ok (.aload_n 0, 1) := by decide +kernel
theorem d_M_level_54 : decode b_M_level 54 = .ok (.getfield 65, 3) := by decide +kernel
theorem d_M_level_57 : decode b_M_level 57 = .ok (.if_icmp .ge 41, 3) := by decide +kernel
theorem d_M_level_60 : decode b_M_level 60 = .ok (.aload_n 0, 1) := by decide +kernel
theorem d_M_level_61 : decode b_M_level 61 = .ok (.getfield 19, 3) := by decide +kernel
theorem d_M_level_64 : decode b_M_level 64 = .ok (.bipush 24, 2) := by decide +kernel
theorem d_M_level_66 : decode b_M_level 66 = .ok (.iload_n 2, 1) := by decide +kernel
theorem d_M_level_67 : decode b_M_level 67 = .ok (.imul, 1) := by decide +kernel
theorem d_M_level_68 : decode b_M_level 68 = .ok (.aload_n 0, 1) := by decide +kernel
theorem d_M_level_69 : decode b_M_level 69 = .ok (.getfield 47, 3) := by decide +kernel
theorem d_M_level_72 : decode b_M_level 72 = .ok (.iload_n 2, 1) := by decide +kernel
theorem d_M_level_73 : decode b_M_level 73 = .ok (.iaload, 1) := by decide +kernel
theorem d_M_level_74 : decode b_M_level 74 = .ok (.iadd, 1) := by decide +kernel
theorem d_M_level_75 : decode b_M_level 75 = .ok (.baload, 1) := by decide +kernel
theorem d_M_level_76 : decode b_M_level 76 = .ok (.ifCond .ne 5, 3) := by decide +kernel
theorem d_M_level_79 : decode b_M_level 79 = .ok (.iload_n 2, 1) := by decide +kernel
theorem d_M_level_80 : decode b_M_level 80 = .ok (.ireturn, 1) := by decide +kernel
theorem d_M_level_81 : decode b_M_level 81 = .ok (.aload_n 0, 1) := by decide +kernel
theorem d_M_level_82 : decode b_M_level 82 = .ok (.iload_n 2, 1) := by decide +kernel
theorem d_M_level_83 : decode b_M_level 83 = .ok (.aload_n 0, 1) := by decide +kernel
theorem d_M_level_84 : decode b_M_level 84 = .ok (.getfield 47, 3) := by decide +kernel
theorem d_M_level_87 : decode b_M_level 87 = .ok (.iload_n 2, 1) := by decide +kernel
theorem d_M_level_88 : decode b_M_level 88 = .ok (.iaload, 1) := by decide +kernel
theorem d_M_level_89 : decode b_M_level 89 = .ok (.invokevirtual 122, 3) := by decide +kernel
theorem d_M_level_92 : decode b_M_level 92 = .ok (.iinc 2 1, 3) := by decide +kernel
theorem d_M_level_95 : decode b_M_level 95 = .ok (.goto (-43), 3) := by decide +kernel
theorem d_M_level_98 : decode b_M_level 98 = .ok (.aload_n 0, 1) := by decide +kernel
theorem d_M_level_99 : decode b_M_level 99 = .ok (.getfield 65, 3) := by decide +kernel
theorem d_M_level_102 : decode b_M_level 102 = .ok (.ireturn, 1) := by decide +kernel
theorem d_M_member_0 : decode b_M_member 0 = .ok (.aload_n 0, 1) := by decide +kernel
theorem d_M_member_1 : decode b_M_member 1 = .ok (.iload_n 1, 1) := by decide +kernel
theorem d_M_member_2 : decode b_M_member 2 = .ok (.invokevirtual 158, 3) := by decide +kernel
theorem d_M_member_5 : decode b_M_member 5 = .ok (.istore_n 2, 1) := by decide +kernel
theorem d_M_member_6 : decode b_M_member 6 = .ok (.iload_n 2, 1) := by decide +kernel
theorem d_M_member_7 : decode b_M_member 7 = .ok (.ifCond .ge 7, 3) := by decide +kernel
theorem d_M_member_10 : decode b_M_member 10 = .ok (.iconst (-1), 1) := by decide +kernel
theorem d_M_member_11 : decode b_M_member 11 = .ok (.goto 16, 3) := by decide +kernel
theorem d_M_member_14 : decode b_M_member 14 = .ok (.iload_n 2, 1) := by decide +kernel
theorem d_M_member_15 : decode b_M_member 15 = .ok (.aload_n 0, 1) := by decide +kernel
theorem d_M_member_16 : decode b_M_member 16 = .ok (.getfield 65, 3) := by decide +kernel
theorem d_M_member_19 : decode b_M_member 19 = .ok (.if_icmp .ne 7, 3) := by decide +kernel
theorem d_M_member_22 : decode b_M_member 22 = .ok (.iconst 1, 1) := by decide +kernel
theorem d_M_member_23 : decode b_M_member 23 = .ok (.goto 4, 3) := by decide +kernel
theorem d_M_member_26 : decode b_M_member 26 = .ok (.iconst 0, 1) := by decide +kernel
theorem d_M_member_27 : decode b_M_member 27 = .ok (.ireturn, 1) := by decide +kernel
theorem d_M_roundOf_0 : decode b_M_roundOf 0 = .ok (.iconst 1, 1) := by decide +kernel
theorem d_M_roundOf_1 : decode b_M_roundOf 1 = .ok (.istore_n 3, 1) := by decide +kernel
theorem d_M_roundOf_2 : decode b_M_roundOf 2 = .ok (.aload_n 0, 1) := by decide +kernel
theorem d_M_roundOf_3 : decode b_M_roundOf 3 = .ok (.getfield 13, 3) := by decide +kernel
theorem d_M_roundOf_6 : decode b_M_roundOf 6 = .ok (.bipush 24, 2) := by decide +kernel
theorem d_M_roundOf_8 : decode b_M_roundOf 8 = .ok (.iload_n 1, 1) := by decide +kernel
theorem d_M_roundOf_9 : decode b_M_roundOf 9 = .ok (.imul, 1) := by decide +kernel
theorem d_M_roundOf_10 : decode b_M_roundOf 10 = .ok (.iload_n 2, 1) := by decide +kernel
theorem d_M_roundOf_11 : decode b_M_roundOf 11 = .ok (.iadd, 1) := by decide +kernel
theorem d_M_roundOf_12 : decode b_M_roundOf 12 = .ok (.iaload, 1) := by decide +kernel
theorem d_M_roundOf_13 : decode b_M_roundOf 13 = .ok (.istore 4, 2) := by decide +kernel
theorem d_M_roundOf_15 : decode b_M_roundOf 15 = .ok (.iload 4, 2) := by decide +kernel
theorem d_M_roundOf_17 : decode b_M_roundOf 17 = .ok (.iload_n 2, 1) := by decide +kernel
theorem d_M_roundOf_18 : decode b_M_roundOf 18 = .ok (.if_icmp .eq 23, 3) := by decide +kernel
theorem d_M_roundOf_21 : decode b_M_roundOf 21 = .ok (.iinc 3 1, 3) := by decide +kernel
theorem d_M_roundOf_24 : decode b_M_roundOf 24 = .ok (.aload_n 0, 1) := by decide +kernel
theorem d_M_roundOf_25 : decode b_M_roundOf 25 = .ok (.getfield 13, 3) := by decide +kernel
theorem d_M_roundOf_28 : decode b_M_roundOf 28 = .ok (.bipush 24, 2) := by decide +kernel
theorem d_M_roundOf_30 : decode b_M_roundOf 30 = .ok (.iload_n 1, 1) := by decide +kernel
theorem d_M_roundOf_31 : decode b_M_roundOf 31 = .ok (.imul, 1) := by decide +kernel
theorem d_M_roundOf_32 : decode b_M_roundOf 32 = .ok (.iload 4, 2) := by decide +kernel
theorem d_M_roundOf_34 : decode b_M_roundOf 34 = .ok (.iadd, 1) := by decide +kernel
theorem d_M_roundOf_35 : decode b_M_roundOf 35 = .ok (.iaload, 1) := by decide +kernel
theorem d_M_roundOf_36 : decode b_M_roundOf 36 = .ok (.istore 4, 2) := by decide +kernel
theorem d_M_roundOf_38 : decode b_M_roundOf 38 = .ok (.goto (-23), 3) := by decide +kernel
theorem d_M_roundOf_41 : decode b_M_roundOf 41 = .ok (.iload_n 3, 1) := by decide +kernel
theorem d_M_roundOf_42 : decode b_M_roundOf 42 = .ok (.ireturn, 1) := by decide +kernel
theorem d_M_parity_0 : decode b_M_parity 0 = .ok (.aload_n 0, 1) := by decide +kernel
theorem d_M_parity_1 : decode b_M_parity 1 = .ok (.iconst 0, 1) := by decide +kernel
theorem d_M_parity_2 : decode b_M_parity 2 = .ok (.putfield 69, 3) := by decide +kernel
theorem d_M_parity_5 : decode b_M_parity 5 = .ok (.aload_n 0, 1) := by decide +kernel
theorem d_M_parity_6 : decode b_M_parity 6 = .ok (.iload_n 1, 1) := by decide +kernel
theorem d_M_parity_7 : decode b_M_parity 7 = .ok (.invokevirtual 86, 3) := by decide +kernel
theorem d_M_parity_10 : decode b_M_parity 10 = .ok (.ifCond .ne 5, 3) := by decide +kernel
theorem d_M_parity_13 : decode b_M_parity 13 = .ok (.iconst (-1), 1) := by decide +kernel
theorem d_M_parity_14 : decode b_M_parity 14 = .ok (.ireturn, 1) := by decide +kernel
theorem d_M_parity_15 : decode b_M_parity 15 = .ok (.iconst 0, 1) := by decide +kernel
theorem d_M_parity_16 : decode b_M_parity 16 = .ok (.istore_n 2, 1) := by decide +kernel
theorem d_M_parity_17 : decode b_M_parity 17 = .ok (.iconst 0, 1) := by decide +kernel
theorem d_M_parity_18 : decode b_M_parity 18 = .ok (.istore_n 3, 1) := by decide +kernel
theorem d_M_parity_19 : decode b_M_parity 19 = .ok (.iload_n 3, 1) := by decide +kernel
theorem d_M_parity_20 : decode b_M_parity 20 = .ok (.aload_n 0, 1) := by decide +kernel
theorem d_M_parity_21 : decode b_M_parity 21 = .ok (.getfield 65, 3) := by decide +kernel
theorem d_M_parity_24 : decode b_M_parity 24 = .ok (.if_icmp .ge 63, 3) := by decide +kernel
theorem d_M_parity_27 : decode b_M_parity 27 = .ok (.iload_n 3, 1) := by decide +kernel
theorem d_M_parity_28 : decode b_M_parity 28 = .ok (.iconst 1, 1) := by decide +kernel
theorem d_M_parity_29 : decode b_M_parity 29 = .ok (.iadd, 1) := by decide +kernel
theorem d_M_parity_30 : decode b_M_parity 30 = .ok (.istore 4, 2) := by decide +kernel
theorem d_M_parity_32 : decode b_M_parity 32 = .ok (.iload 4, 2) := by decide +kernel
theorem d_M_parity_34 : decode b_M_parity 34 = .ok (.aload_n 0, 1) := by decide +kernel
theorem d_M_parity_35 : decode b_M_parity 35 = .ok (.getfield 65, 3) := by decide +kernel
theorem d_M_parity_38 : decode b_M_parity 38 = .ok (.if_icmp .ge 43, 3) := by decide +kernel
theorem d_M_parity_41 : decode b_M_parity 41 = .ok (.iload_n 2, 1) := by decide +kernel
theorem d_M_parity_42 : decode b_M_parity 42 = .ok (.aload_n 0, 1) := by decide +kernel
theorem d_M_parity_43 : decode b_M_parity 43 = .ok (.getfield 13, 3) := by decide +kernel
theorem d_M_parity_46 : decode b_M_parity 46 = .ok (.bipush 24, 2) := by decide +kernel
theorem d_M_parity_48 : decode b_M_parity 48 = .ok (.iload_n 1, 1) := by decide +kernel
theorem d_M_parity_49 : decode b_M_parity 49 = .ok (.imul, 1) := by decide +kernel
theorem d_M_parity_50 : decode b_M_parity 50 = .ok (.iload_n 3, 1) := by decide +kernel
theorem d_M_parity_51 : decode b_M_parity 51 = .ok (.iadd, 1) := by decide +kernel
theorem d_M_parity_52 : decode b_M_parity 52 = .ok (.iaload, 1) := by decide +kernel
theorem d_M_parity_53 : decode b_M_parity 53 = .ok (.aload_n 0, 1) := by decide +kernel
theorem d_M_parity_54 : decode b_M_parity 54 = .ok (.getfield 13, 3) := by decide +kernel
theorem d_M_parity_57 : decode b_M_parity 57 = .ok (.bipush 24, 2) := by decide +kernel
theorem d_M_parity_59 : decode b_M_parity 59 = .ok (.iload_n 1, 1) := by decide +kernel
theorem d_M_parity_60 : decode b_M_parity 60 = .ok (.imul, 1) := by decide +kernel
theorem d_M_parity_61 : decode b_M_parity 61 = .ok (.iload 4, 2) := by decide +kernel
theorem d_M_parity_63 : decode b_M_parity 63 = .ok (.iadd, 1) := by decide +kernel
theorem d_M_parity_64 : decode b_M_parity 64 = .ok (.iaload, 1) := by decide +kernel
theorem d_M_parity_65 : decode b_M_parity 65 = .ok (.if_icmp .le 7, 3) := by decide +kernel
theorem d_M_parity_68 : decode b_M_parity 68 = .ok (.iconst 1, 1) := by decide +kernel
theorem d_M_parity_69 : decode b_M_parity 69 = .ok (.goto 4, 3) := by decide +kernel
theorem d_M_parity_72 : decode b_M_parity 72 = .ok (.iconst 0, 1) := by decide +kernel
theorem d_M_parity_73 : decode b_M_parity 73 = .ok (.iadd, 1) := by decide +kernel
theorem d_M_parity_74 : decode b_M_parity 74 = .ok (.istore_n 2, 1) := by decide +kernel
theorem d_M_parity_75 : decode b_M_parity 75 = .ok (.iinc 4 1, 3) := by decide +kernel
theorem d_M_parity_78 : decode b_M_parity 78 = .ok (.goto (-46), 3) := by decide +kernel
theorem d_M_parity_81 : decode b_M_parity 81 = .ok (.iinc 3 1, 3) := by decide +kernel
theorem d_M_parity_84 : decode b_M_parity 84 = .ok (.goto (-65), 3) := by decide +kernel
theorem d_M_parity_87 : decode b_M_parity 87 = .ok (.iload_n 2, 1) := by decide +kernel
theorem d_M_parity_88 : decode b_M_parity 88 = .ok (.iconst 2, 1) := by decide +kernel
theorem d_M_parity_89 : decode b_M_parity 89 = .ok (.irem, 1) := by decide +kernel
theorem d_M_parity_90 : decode b_M_parity 90 = .ok (.ireturn, 1) := by decide +kernel
theorem d_M_times_0 : decode b_M_times 0 = .ok (.aload_n 0, 1) := by decide +kernel
theorem d_M_times_1 : decode b_M_times 1 = .ok (.iconst 0, 1) := by decide +kernel
theorem d_M_times_2 : decode b_M_times 2 = .ok (.putfield 69, 3) := by decide +kernel
theorem d_M_times_5 : decode b_M_times 5 = .ok (.aload_n 0, 1) := by decide +kernel
theorem d_M_times_6 : decode b_M_times 6 = .ok (.iload_n 1, 1) := by decide +kernel
theorem d_M_times_7 : decode b_M_times 7 = .ok (.invokevirtual 86, 3) := by decide +kernel
theorem d_M_times_10 : decode b_M_times 10 = .ok (.ifCond .ne 5, 3) := by decide +kernel
theorem d_M_times_13 : decode b_M_times 13 = .ok (.lconst 0, 1) := by decide +kernel
theorem d_M_times_14 : decode b_M_times 14 = .ok (.lreturn, 1) := by decide +kernel
theorem d_M_times_15 : decode b_M_times 15 = .ok (.lconst 1, 1) := by decide +kernel
theorem d_M_times_16 : decode b_M_times 16 = .ok (.lstore_n 2, 1) := by decide +kernel
theorem d_M_times_17 : decode b_M_times 17 = .ok (.iconst 0, 1) := by decide +kernel
theorem d_M_times_18 : decode b_M_times 18 = .ok (.istore 4, 2) := by decide +kernel
theorem d_M_times_20 : decode b_M_times 20 = .ok (.iload 4, 2) := by decide +kernel
theorem d_M_times_22 : decode b_M_times 22 = .ok (.ifCond .ne 67, 3) := by decide +kernel
theorem d_M_times_25 : decode b_M_times 25 = .ok (.iconst 1, 1) := by decide +kernel
theorem d_M_times_26 : decode b_M_times 26 = .ok (.istore 4, 2) := by decide +kernel
theorem d_M_times_28 : decode b_M_times 28 = .ok (.iconst 0, 1) := by decide +kernel
theorem d_M_times_29 : decode b_M_times 29 = .ok (.istore 5, 2) := by decide +kernel
theorem d_M_times_31 : decode b_M_times 31 = .ok (.iload 5, 2) := by decide +kernel
theorem d_M_times_33 : decode b_M_times 33 = .ok (.aload_n 0, 1) := by decide +kernel
theorem d_M_times_34 : decode b_M_times 34 = .ok (.getfield 65, 3) := by decide +kernel
theorem d_M_times_37 : decode b_M_times 37 = .ok (.if_icmp .ge 36, 3) := by decide +kernel
theorem d_M_times_40 : decode b_M_times 40 = .ok (.iload 4, 2) := by decide +kernel
theorem d_M_times_42 : decode b_M_times 42 = .ok (.ifCond .eq 22, 3) := by decide +kernel
theorem d_M_times_45 : decode b_M_times 45 = .ok (.lload_n 2, 1) := by decide +kernel
theorem d_M_times_46 : decode b_M_times 46 = .ok (.aload_n 0, 1) := by decide +kernel
theorem d_M_times_47 : decode b_M_times 47 = .ok (.iload_n 1, 1) := by decide +kernel
theorem d_M_times_48 : decode b_M_times 48 = .ok (.iload 5, 2) := by decide +kernel
theorem d_M_times_50 : decode b_M_times 50 = .ok (.invokevirtual 161, 3) := by decide +kernel
theorem d_M_times_53 : decode b_M_times 53 = .ok (.i2l, 1) := by decide +kernel
theorem d_M_times_54 : decode b_M_times 54 = .ok (.lrem, 1) := by decide +kernel
theorem d_M_times_55 : decode b_M_times 55 = .ok (.lconst 0, 1) := by decide +kernel
theorem d_M_times_56 : decode b_M_times 56 = .ok (.lcmp, 1) := by decide +kernel
theorem d_M_times_57 : decode b_M_times 57 = .ok (.ifCond .ne 7, 3) := by decide +kernel
theorem d_M_times_60 : decode b_M_times 60 = .ok (.iconst 1, 1) := by decide +kernel
theorem d_M_times_61 : decode b_M_times 61 = .ok (.goto 4, 3) := by decide +kernel
theorem d_M_times_64 : decode b_M_times 64 = .ok (.iconst 0, 1) := by decide +kernel
theorem d_M_times_65 : decode b_M_times 65 = .ok (.istore 4, 2) := by decide +kernel
theorem d_M_times_67 : decode b_M_times 67 = .ok (.iinc 5 1, 3) := by decide +kernel
theorem d_M_times_70 : decode b_M_times 70 = .ok (.goto (-39), 3) := by decide +kernel
theorem d_M_times_73 : decode b_M_times 73 = .ok (.lload_n 2, 1) := by decide +kernel
theorem d_M_times_74 : decode b_M_times 74 = .ok (.iload 4, 2) := by decide +kernel
theorem d_M_times_76 : decode b_M_times 76 = .ok (.ifCond .eq 7, 3) := by decide +kernel
theorem d_M_times_79 : decode b_M_times 79 = .ok (.lconst 0, 1) := by decide +kernel
theorem d_M_times_80 : decode b_M_times 80 = .ok (.goto 4, 3) := by decide +kernel
theorem d_M_times_83 : decode b_M_times 83 = .ok (.lconst 1, 1) := by decide +kernel
theorem d_M_times_84 : decode b_M_times 84 = .ok (.ladd, 1) := by decide +kernel
theorem d_M_times_85 : decode b_M_times 85 = .ok (.lstore_n 2, 1) := by decide +kernel
theorem d_M_times_86 : decode b_M_times 86 = .ok (.goto (-66), 3) := by decide +kernel
theorem d_M_times_89 : decode b_M_times 89 = .ok (.lload_n 2, 1) := by decide +kernel
theorem d_M_times_90 : decode b_M_times 90 = .ok (.lreturn, 1) := by decide +kernel
end
section
theorem d_L_cell_0 : decode b_L_cell 0 = .ok (.iload_n 1, 1) := by decide +kernel
theorem d_L_cell_1 : decode b_L_cell 1 = .ok (.aload_n 0, 1) := by decide +kernel
theorem d_L_cell_2 : decode b_L_cell 2 = .ok (.arraylength, 1) := by decide +kernel
theorem d_L_cell_3 : decode b_L_cell 3 = .ok (.if_icmp .ge 9, 3) := by decide +kernel
theorem d_L_cell_6 : decode b_L_cell 6 = .ok (.aload_n 0, 1) := by decide +kernel
theorem d_L_cell_7 : decode b_L_cell 7 = .ok (.iload_n 1, 1) := by decide +kernel
theorem d_L_cell_8 : decode b_L_cell 8 = .ok (.iaload, 1) := by decide +kernel
theorem d_L_cell_9 : decode b_L_cell 9 = .ok (.goto 4, 3) := by decide +kernel
theorem d_L_cell_12 : decode b_L_cell 12 = .ok (.iconst 0, 1) := by decide +kernel
theorem d_L_cell_13 : decode b_L_cell 13 = .ok (.ireturn, 1) := by decide +kernel
theorem d_L_law_0 : decode b_L_law 0 = .ok (.new 7, 3) := by decide +kernel
theorem d_L_law_3 : decode b_L_law 3 = .ok (.dup, 1) := by decide +kernel
theorem d_L_law_4 : decode b_L_law 4 = .ok (.aload_n 0, 1) := by decide +kernel
theorem d_L_law_5 : decode b_L_law 5 = .ok (.iconst 0, 1) := by decide +kernel
theorem d_L_law_6 : decode b_L_law 6 = .ok (.invokestatic 9, 3) := by decide +kernel
theorem d_L_law_9 : decode b_L_law 9 = .ok (.invokespecial 15, 3) := by decide +kernel
theorem d_L_law_12 : decode b_L_law 12 = .ok (.astore_n 1, 1) := by decide +kernel
theorem d_L_law_13 : decode b_L_law 13 = .ok (.new 18, 3) := by decide +kernel
theorem d_L_law_16 : decode b_L_law 16 = .ok (.dup, 1) := by decide +kernel
theorem d_L_law_17 : decode b_L_law 17 = .ok (.aload_n 0, 1) := by decide +kernel
theorem d_L_law_18 : decode b_L_law 18 = .ok (.iconst 0, 1) := by decide +kernel
theorem d_L_law_19 : decode b_L_law 19 = .ok (.invokestatic 9, 3) := by decide +kernel
theorem d_L_law_22 : decode b_L_law 22 = .ok (.invokespecial 20, 3) := by decide +kernel
theorem d_L_law_25 : decode b_L_law 25 = .ok (.astore_n 2, 1) := by decide +kernel
theorem d_L_law_26 : decode b_L_law 26 = .ok (.iconst 1, 1) := by decide +kernel
theorem d_L_law_27 : decode b_L_law 27 = .ok (.istore_n 3, 1) := by decide +kernel
theorem d_L_law_28 : decode b_L_law 28 = .ok (.iload_n 3, 1) := by decide +kernel
theorem d_L_law_29 : decode b_L_law 29 = .ok (.aload_n 0, 1) := by decide +kernel
theorem d_L_law_30 : decode b_L_law 30 = .ok (.arraylength, 1) := by decide +kernel
theorem d_L_law_31 : decode b_L_law 31 = .ok (.iconst 5, 1) := by decide +kernel
theorem d_L_law_32 : decode b_L_law 32 = .ok (.isub, 1) := by decide +kernel
theorem d_L_law_33 : decode b_L_law 33 = .ok (.if_icmp .gt 616, 3) := by decide +kernel
theorem d_L_law_36 : decode b_L_law 36 = .ok (.aload_n 0, 1) := by decide +kernel
theorem d_L_law_37 : decode b_L_law 37 = .ok (.iload_n 3, 1) := by decide +kernel
theorem d_L_law_38 : decode b_L_law 38 = .ok (.iaload, 1) := by decide +kernel
theorem d_L_law_39 : decode b_L_law 39 = .ok (.bipush 31, 2) := by decide +kernel
theorem d_L_law_41 : decode b_L_law 41 = .ok (.iand, 1) := by decide +kernel
theorem d_L_law_42 : decode b_L_law 42 = .ok (.tableswitch 601 0 17 #[86, 99, 142, 155, 178, 201, 224, 257, 280, 313, 326, 359, 402, 475, 508, 531, 554, 577], 86) := by decide +kernel
theorem d_L_law_128 : decode b_L_law 128 = .ok (.aload_n 1, 1) := by decide +kernel
theorem d_L_law_129 : decode b_L_law 129 = .ok (.invokevirtual 21, 3) := by decide +kernel
theorem d_L_law_132 : decode b_L_law 132 = .ok (.aload_n 2, 1) := by decide +kernel
theorem d_L_law_133 : decode b_L_law 133 = .ok (.invokevirtual 25, 3) := by decide +kernel
theorem d_L_law_136 : decode b_L_law 136 = .ok (.if_icmp .eq 507, 3) := by decide +kernel
theorem d_L_law_139 : decode b_L_law 139 = .ok (.iconst 0, 1) := by decide +kernel
theorem d_L_law_140 : decode b_L_law 140 = .ok (.ireturn, 1) := by decide +kernel
theorem d_L_law_141 : decode b_L_law 141 = .ok (.aload_n 1, 1) := by decide +kernel
theorem d_L_law_142 : decode b_L_law 142 = .ok (.aload_n 0, 1) := by decide +kernel
theorem d_L_law_143 : decode b_L_law 143 = .ok (.iload_n 3, 1) := by decide +kernel
theorem d_L_law_144 : decode b_L_law 144 = .ok (.iconst 1, 1) := by decide +kernel
theorem d_L_law_145 : decode b_L_law 145 = .ok (.iadd, 1) := by decide +kernel
theorem d_L_law_146 : decode b_L_law 146 = .ok (.iaload, 1) := by decide +kernel
theorem d_L_law_147 : decode b_L_law 147 = .ok (.aload_n 0, 1) := by decide +kernel
theorem d_L_law_148 : decode b_L_law 148 = .ok (.iload_n 3, 1) := by decide +kernel
theorem d_L_law_149 : decode b_L_law 149 = .ok (.iconst 2, 1) := by decide +kernel
theorem d_L_law_150 : decode b_L_law 150 = .ok (.iadd, 1) := by decide +kernel
theorem d_L_law_151 : decode b_L_law 151 = .ok (.iaload, 1) := by decide +kernel
theorem d_L_law_152 : decode b_L_law 152 = .ok (.aload_n 0, 1) := by decide +kernel
theorem d_L_law_153 : decode b_L_law 153 = .ok (.iload_n 3, 1) := by decide +kernel
theorem d_L_law_154 : decode b_L_law 154 = .ok (.iconst 3, 1) := by decide +kernel
theorem d_L_law_155 : decode b_L_law 155 = .ok (.iadd, 1) := by decide +kernel
theorem d_L_law_156 : decode b_L_law 156 = .ok (.iaload, 1) := by decide +kernel
theorem d_L_law_157 : decode b_L_law 157 = .ok (.invokevirtual 26, 3) := by decide +kernel
theorem d_L_law_160 : decode b_L_law 160 = .ok (.aload_n 2, 1) := by decide +kernel
theorem d_L_law_161 : decode b_L_law 161 = .ok (.aload_n 0, 1) := by decide +kernel
theorem d_L_law_162 : decode b_L_law 162 = .ok (.iload_n 3, 1) := by decide +kernel
theorem d_L_law_163 : decode b_L_law 163 = .ok (.iconst 1, 1) := by decide +kernel
theorem d_L_law_164 : decode b_L_law 164 = .ok (.iadd, 1) := by decide +kernel
theorem d_L_law_165 : decode b_L_law 165 = .ok (.iaload, 1) := by decide +kernel
theorem d_L_law_166 : decode b_L_law 166 = .ok (.aload_n 0, 1) := by decide +kernel
theorem d_L_law_167 : decode b_L_law 167 = .ok (.iload_n 3, 1) := by decide +kernel
theorem d_L_law_168 : decode b_L_law 168 = .ok (.iconst 2, 1) := by decide +kernel
theorem d_L_law_169 : decode b_L_law 169 = .ok (.iadd, 1) := by decide +kernel
theorem d_L_law_170 : decode b_L_law 170 = .ok (.iaload, 1) := by decide +kernel
theorem d_L_law_171 : decode b_L_law 171 = .ok (.aload_n 0, 1) := by decide +kernel
theorem d_L_law_172 : decode b_L_law 172 = .ok (.iload_n 3, 1) := by decide +kernel
theorem d_L_law_173 : decode b_L_law 173 = .ok (.iconst 3, 1) := by decide +kernel
theorem d_L_law_174 : decode b_L_law 174 = .ok (.iadd, 1) := by decide +kernel
theorem d_L_law_175 : decode b_L_law 175 = .ok (.iaload, 1) := by decide +kernel
theorem d_L_law_176 : decode b_L_law 176 = .ok (.invokevirtual 30, 3) := by decide +kernel
theorem d_L_law_179 : decode b_L_law 179 = .ok (.if_icmp .eq 464, 3) := by decide +kernel
theorem d_L_law_182 : decode b_L_law 182 = .ok (.iconst 0, 1) := by decide +kernel
theorem d_L_law_183 : decode b_L_law 183 = .ok (.ireturn, 1) := by decide +kernel
theorem d_L_law_184 : decode b_L_law 184 = .ok (.aload_n 1, 1) := by decide +kernel
theorem d_L_law_185 : decode b_L_law 185 = .ok (.invokevirtual 31, 3) := by decide +kernel
theorem d_L_law_188 : decode b_L_law 188 = .ok (.aload_n 2, 1) := by decide +kernel
theorem d_L_law_189 : decode b_L_law 189 = .ok (.invokevirtual 34, 3) := by decide +kernel
theorem d_L_law_192 : decode b_L_law 192 = .ok (.if_icmp .eq 451, 3) := by decide +kernel
theorem d_L_law_195 : decode b_L_law 195 = .ok (.iconst 0, 1) := by decide +kernel
theorem d_L_law_196 : decode b_L_law 196 = .ok (.ireturn, 1) := by decide +kernel
theorem d_L_law_197 : decode b_L_law 197 = .ok (.aload_n 1, 1) := by decide +kernel
theorem d_L_law_198 : decode b_L_law 198 = .ok (.aload_n 0, 1) := by decide +kernel
theorem d_L_law_199 : decode b_L_law 199 = .ok (.iload_n 3, 1) := by decide +kernel
theorem d_L_law_200 : decode b_L_law 200 = .ok (.iconst 1, 1) := by decide +kernel
theorem d_L_law_201 : decode b_L_law 201 = .ok (.iadd, 1) := by decide +kernel
theorem d_L_law_202 : decode b_L_law 202 = .ok (.iaload, 1) := by decide +kernel
theorem d_L_law_203 : decode b_L_law 203 = .ok (.invokevirtual 35, 3) := by decide +kernel
theorem d_L_law_206 : decode b_L_law 206 = .ok (.aload_n 2, 1) := by decide +kernel
theorem d_L_law_207 : decode b_L_law 207 = .ok (.aload_n 0, 1) := by decide +kernel
theorem d_L_law_208 : decode b_L_law 208 = .ok (.iload_n 3, 1) := by decide +kernel
theorem d_L_law_209 : decode b_L_law 209 = .ok (.iconst 1, 1) := by decide +kernel
theorem d_L_law_210 : decode b_L_law 210 = .ok (.iadd, 1) := by decide +kernel
theorem d_L_law_211 : decode b_L_law 211 = .ok (.iaload, 1) := by decide +kernel
theorem d_L_law_212 : decode b_L_law 212 = .ok (.invokevirtual 39, 3) := by decide +kernel
theorem d_L_law_215 : decode b_L_law 215 = .ok (.if_icmp .eq 428, 3) := by decide +kernel
theorem d_L_law_218 : decode b_L_law 218 = .ok (.iconst 0, 1) := by decide +kernel
theorem d_L_law_219 : decode b_L_law 219 = .ok (.ireturn, 1) := by decide +kernel
theorem d_L_law_220 : decode b_L_law 220 = .ok (.aload_n 1, 1) := by decide +kernel
theorem d_L_law_221 : decode b_L_law 221 = .ok (.aload_n 0, 1) := by decide +kernel
theorem d_L_law_222 : decode b_L_law 222 = .ok (.iload_n 3, 1) := by decide +kernel
theorem d_L_law_223 : decode b_L_law 223 = .ok (.iconst 1, 1) := by decide +kernel
theorem d_L_law_224 : decode b_L_law 224 = .ok (.iadd, 1) := by decide +kernel
theorem d_L_law_225 : decode b_L_law 225 = .ok (.iaload, 1) := by decide +kernel
theorem d_L_law_226 : decode b_L_law 226 = .ok (.invokevirtual 40, 3) := by decide +kernel
theorem d_L_law_229 : decode b_L_law 229 = .ok (.aload_n 2, 1) := by decide +kernel
theorem d_L_law_230 : decode b_L_law 230 = .ok (.aload_n 0, 1) := by decide +kernel
theorem d_L_law_231 : decode b_L_law 231 = .ok (.iload_n 3, 1) := by decide +kernel
theorem d_L_law_232 : decode b_L_law 232 = .ok (.iconst 1, 1) := by decide +kernel
theorem d_L_law_233 : decode b_L_law 233 = .ok (.iadd, 1) := by decide +kernel
theorem d_L_law_234 : decode b_L_law 234 = .ok (.iaload, 1) := by decide +kernel
theorem d_L_law_235 : decode b_L_law 235 = .ok (.invokevirtual 43, 3) := by decide +kernel
theorem d_L_law_238 : decode b_L_law 238 = .ok (.if_icmp .eq 405, 3) := by decide +kernel
theorem d_L_law_241 : decode b_L_law 241 = .ok (.iconst 0, 1) := by decide +kernel
theorem d_L_law_242 : decode b_L_law 242 = .ok (.ireturn, 1) := by decide +kernel
theorem d_L_law_243 : decode b_L_law 243 = .ok (.aload_n 1, 1) := by decide +kernel
theorem d_L_law_244 : decode b_L_law 244 = .ok (.aload_n 0, 1) := by decide +kernel
theorem d_L_law_245 : decode b_L_law 245 = .ok (.iload_n 3, 1) := by decide +kernel
theorem d_L_law_246 : decode b_L_law 246 = .ok (.iconst 1, 1) := by decide +kernel
theorem d_L_law_247 : decode b_L_law 247 = .ok (.iadd, 1) := by decide +kernel
theorem d_L_law_248 : decode b_L_law 248 = .ok (.iaload, 1) := by decide +kernel
theorem d_L_law_249 : decode b_L_law 249 = .ok (.invokevirtual 44, 3) := by decide +kernel
theorem d_L_law_252 : decode b_L_law 252 = .ok (.aload_n 2, 1) := by decide +kernel
theorem d_L_law_253 : decode b_L_law 253 = .ok (.aload_n 0, 1) := by decide +kernel
theorem d_L_law_254 : decode b_L_law 254 = .ok (.iload_n 3, 1) := by decide +kernel
theorem d_L_law_255 : decode b_L_law 255 = .ok (.iconst 1, 1) := by decide +kernel
theorem d_L_law_256 : decode b_L_law 256 = .ok (.iadd, 1) := by decide +kernel
theorem d_L_law_257 : decode b_L_law 257 = .ok (.iaload, 1) := by decide +kernel
theorem d_L_law_258 : decode b_L_law 258 = .ok (.invokevirtual 47, 3) := by decide +kernel
theorem d_L_law_261 : decode b_L_law 261 = .ok (.if_icmp .eq 382, 3) := by decide +kernel
theorem d_L_law_264 : decode b_L_law 264 = .ok (.iconst 0, 1) := by decide +kernel
theorem d_L_law_265 : decode b_L_law 265 = .ok (.ireturn, 1) := by decide +kernel
theorem d_L_law_266 : decode b_L_law 266 = .ok (.aload_n 1, 1) := by decide +kernel
theorem d_L_law_267 : decode b_L_law 267 = .ok (.aload_n 0, 1) := by decide +kernel
theorem d_L_law_268 : decode b_L_law 268 = .ok (.iload_n 3, 1) := by decide +kernel
theorem d_L_law_269 : decode b_L_law 269 = .ok (.iconst 1, 1) := by decide +kernel
theorem d_L_law_270 : decode b_L_law 270 = .ok (.iadd, 1) := by decide +kernel
theorem d_L_law_271 : decode b_L_law 271 = .ok (.iaload, 1) := by decide +kernel
theorem d_L_law_272 : decode b_L_law 272 = .ok (.aload_n 0, 1) := by decide +kernel
theorem d_L_law_273 : decode b_L_law 273 = .ok (.iload_n 3, 1) := by decide +kernel
theorem d_L_law_274 : decode b_L_law 274 = .ok (.iconst 2, 1) := by decide +kernel
theorem d_L_law_275 : decode b_L_law 275 = .ok (.iadd, 1) := by decide +kernel
theorem d_L_law_276 : decode b_L_law 276 = .ok (.iaload, 1) := by decide +kernel
theorem d_L_law_277 : decode b_L_law 277 = .ok (.invokevirtual 48, 3) := by decide +kernel
theorem d_L_law_280 : decode b_L_law 280 = .ok (.aload_n 2, 1) := by decide +kernel
theorem d_L_law_281 : decode b_L_law 281 = .ok (.aload_n 0, 1) := by decide +kernel
theorem d_L_law_282 : decode b_L_law 282 = .ok (.iload_n 3, 1) := by decide +kernel
theorem d_L_law_283 : decode b_L_law 283 = .ok (.iconst 1, 1) := by decide +kernel
theorem d_L_law_284 : decode b_L_law 284 = .ok (.iadd, 1) := by decide +kernel
theorem d_L_law_285 : decode b_L_law 285 = .ok (.iaload, 1) := by decide +kernel
theorem d_L_law_286 : decode b_L_law 286 = .ok (.aload_n 0, 1) := by decide +kernel
theorem d_L_law_287 : decode b_L_law 287 = .ok (.iload_n 3, 1) := by decide +kernel
theorem d_L_law_288 : decode b_L_law 288 = .ok (.iconst 2, 1) := by decide +kernel
theorem d_L_law_289 : decode b_L_law 289 = .ok (.iadd, 1) := by decide +kernel
theorem d_L_law_290 : decode b_L_law 290 = .ok (.iaload, 1) := by decide +kernel
theorem d_L_law_291 : decode b_L_law 291 = .ok (.invokevirtual 52, 3) := by decide +kernel
theorem d_L_law_294 : decode b_L_law 294 = .ok (.if_icmp .eq 349, 3) := by decide +kernel
theorem d_L_law_297 : decode b_L_law 297 = .ok (.iconst 0, 1) := by decide +kernel
theorem d_L_law_298 : decode b_L_law 298 = .ok (.ireturn, 1) := by decide +kernel
theorem d_L_law_299 : decode b_L_law 299 = .ok (.aload_n 1, 1) := by decide +kernel
theorem d_L_law_300 : decode b_L_law 300 = .ok (.aload_n 0, 1) := by decide +kernel
theorem d_L_law_301 : decode b_L_law 301 = .ok (.iload_n 3, 1) := by decide +kernel
theorem d_L_law_302 : decode b_L_law 302 = .ok (.iconst 1, 1) := by decide +kernel
theorem d_L_law_303 : decode b_L_law 303 = .ok (.iadd, 1) := by decide +kernel
theorem d_L_law_304 : decode b_L_law 304 = .ok (.iaload, 1) := by decide +kernel
theorem d_L_law_305 : decode b_L_law 305 = .ok (.invokevirtual 53, 3) := by decide +kernel
theorem d_L_law_308 : decode b_L_law 308 = .ok (.aload_n 2, 1) := by decide +kernel
theorem d_L_law_309 : decode b_L_law 309 = .ok (.aload_n 0, 1) := by decide +kernel
theorem d_L_law_310 : decode b_L_law 310 = .ok (.iload_n 3, 1) := by decide +kernel
theorem d_L_law_311 : decode b_L_law 311 = .ok (.iconst 1, 1) := by decide +kernel
theorem d_L_law_312 : decode b_L_law 312 = .ok (.iadd, 1) := by decide +kernel
theorem d_L_law_313 : decode b_L_law 313 = .ok (.iaload, 1) := by decide +kernel
theorem d_L_law_314 : decode b_L_law 314 = .ok (.invokevirtual 56, 3) := by decide +kernel
theorem d_L_law_317 : decode b_L_law 317 = .ok (.if_icmp .eq 326, 3) := by decide +kernel
theorem d_L_law_320 : decode b_L_law 320 = .ok (.iconst 0, 1) := by decide +kernel
theorem d_L_law_321 : decode b_L_law 321 = .ok (.ireturn, 1) := by decide +kernel
theorem d_L_law_322 : decode b_L_law 322 = .ok (.aload_n 1, 1) := by decide +kernel
theorem d_L_law_323 : decode b_L_law 323 = .ok (.aload_n 0, 1) := by decide +kernel
theorem d_L_law_324 : decode b_L_law 324 = .ok (.iload_n 3, 1) := by decide +kernel
theorem d_L_law_325 : decode b_L_law 325 = .ok (.iconst 1, 1) := by decide +kernel
theorem d_L_law_326 : decode b_L_law 326 = .ok (.iadd, 1) := by decide +kernel
theorem d_L_law_327 : decode b_L_law 327 = .ok (.iaload, 1) := by decide +kernel
theorem d_L_law_328 : decode b_L_law 328 = .ok (.aload_n 0, 1) := by decide +kernel
theorem d_L_law_329 : decode b_L_law 329 = .ok (.iload_n 3, 1) := by decide +kernel
theorem d_L_law_330 : decode b_L_law 330 = .ok (.iconst 2, 1) := by decide +kernel
theorem d_L_law_331 : decode b_L_law 331 = .ok (.iadd, 1) := by decide +kernel
theorem d_L_law_332 : decode b_L_law 332 = .ok (.iaload, 1) := by decide +kernel
theorem d_L_law_333 : decode b_L_law 333 = .ok (.invokevirtual 57, 3) := by decide +kernel
theorem d_L_law_336 : decode b_L_law 336 = .ok (.aload_n 2, 1) := by decide +kernel
theorem d_L_law_337 : decode b_L_law 337 = .ok (.aload_n 0, 1) := by decide +kernel
theorem d_L_law_338 : decode b_L_law 338 = .ok (.iload_n 3, 1) := by decide +kernel
theorem d_L_law_339 : decode b_L_law 339 = .ok (.iconst 1, 1) := by decide +kernel
theorem d_L_law_340 : decode b_L_law 340 = .ok (.iadd, 1) := by decide +kernel
theorem d_L_law_341 : decode b_L_law 341 = .ok (.iaload, 1) := by decide +kernel
theorem d_L_law_342 : decode b_L_law 342 = .ok (.aload_n 0, 1) := by decide +kernel
theorem d_L_law_343 : decode b_L_law 343 = .ok (.iload_n 3, 1) := by decide +kernel
theorem d_L_law_344 : decode b_L_law 344 = .ok (.iconst 2, 1) := by decide +kernel
theorem d_L_law_345 : decode b_L_law 345 = .ok (.iadd, 1) := by decide +kernel
theorem d_L_law_346 : decode b_L_law 346 = .ok (.iaload, 1) := by decide +kernel
theorem d_L_law_347 : decode b_L_law 347 = .ok (.invokevirtual 60, 3) := by decide +kernel
theorem d_L_law_350 : decode b_L_law 350 = .ok (.if_icmp .eq 293, 3) := by decide +kernel
theorem d_L_law_353 : decode b_L_law 353 = .ok (.iconst 0, 1) := by decide +kernel
theorem d_L_law_354 : decode b_L_law 354 = .ok (.ireturn, 1) := by decide +kernel
theorem d_L_law_355 : decode b_L_law 355 = .ok (.aload_n 1, 1) := by decide +kernel
theorem d_L_law_356 : decode b_L_law 356 = .ok (.invokevirtual 61, 3) := by decide +kernel
theorem d_L_law_359 : decode b_L_law 359 = .ok (.aload_n 2, 1) := by decide +kernel
theorem d_L_law_360 : decode b_L_law 360 = .ok (.invokevirtual 64, 3) := by decide +kernel
theorem d_L_law_363 : decode b_L_law 363 = .ok (.if_icmp .eq 280, 3) := by decide +kernel
theorem d_L_law_366 : decode b_L_law 366 = .ok (.iconst 0, 1) := by decide +kernel
theorem d_L_law_367 : decode b_L_law 367 = .ok (.ireturn, 1) := by decide +kernel
theorem d_L_law_368 : decode b_L_law 368 = .ok (.aload_n 1, 1) := by decide +kernel
theorem d_L_law_369 : decode b_L_law 369 = .ok (.aload_n 0, 1) := by decide +kernel
theorem d_L_law_370 : decode b_L_law 370 = .ok (.iload_n 3, 1) := by decide +kernel
theorem d_L_law_371 : decode b_L_law 371 = .ok (.iconst 1, 1) := by decide +kernel
theorem d_L_law_372 : decode b_L_law 372 = .ok (.iadd, 1) := by decide +kernel
theorem d_L_law_373 : decode b_L_law 373 = .ok (.iaload, 1) := by decide +kernel
theorem d_L_law_374 : decode b_L_law 374 = .ok (.aload_n 0, 1) := by decide +kernel
theorem d_L_law_375 : decode b_L_law 375 = .ok (.iload_n 3, 1) := by decide +kernel
theorem d_L_law_376 : decode b_L_law 376 = .ok (.iconst 2, 1) := by decide +kernel
theorem d_L_law_377 : decode b_L_law 377 = .ok (.iadd, 1) := by decide +kernel
theorem d_L_law_378 : decode b_L_law 378 = .ok (.iaload, 1) := by decide +kernel
theorem d_L_law_379 : decode b_L_law 379 = .ok (.invokevirtual 65, 3) := by decide +kernel
theorem d_L_law_382 : decode b_L_law 382 = .ok (.aload_n 2, 1) := by decide +kernel
theorem d_L_law_383 : decode b_L_law 383 = .ok (.aload_n 0, 1) := by decide +kernel
theorem d_L_law_384 : decode b_L_law 384 = .ok (.iload_n 3, 1) := by decide +kernel
theorem d_L_law_385 : decode b_L_law 385 = .ok (.iconst 1, 1) := by decide +kernel
theorem d_L_law_386 : decode b_L_law 386 = .ok (.iadd, 1) := by decide +kernel
theorem d_L_law_387 : decode b_L_law 387 = .ok (.iaload, 1) := by decide +kernel
theorem d_L_law_388 : decode b_L_law 388 = .ok (.aload_n 0, 1) := by decide +kernel
theorem d_L_law_389 : decode b_L_law 389 = .ok (.iload_n 3, 1) := by decide +kernel
theorem d_L_law_390 : decode b_L_law 390 = .ok (.iconst 2, 1) := by decide +kernel
theorem d_L_law_391 : decode b_L_law 391 = .ok (.iadd, 1) := by decide +kernel
theorem d_L_law_392 : decode b_L_law 392 = .ok (.iaload, 1) := by decide +kernel
theorem d_L_law_393 : decode b_L_law 393 = .ok (.invokevirtual 69, 3) := by decide +kernel
theorem d_L_law_396 : decode b_L_law 396 = .ok (.if_icmp .eq 247, 3) := by decide +kernel
theorem d_L_law_399 : decode b_L_law 399 = .ok (.iconst 0, 1) := by decide +kernel
theorem d_L_law_400 : decode b_L_law 400 = .ok (.ireturn, 1) := by decide +kernel
theorem d_L_law_401 : decode b_L_law 401 = .ok (.aload_n 1, 1) := by decide +kernel
theorem d_L_law_402 : decode b_L_law 402 = .ok (.aload_n 0, 1) := by decide +kernel
theorem d_L_law_403 : decode b_L_law 403 = .ok (.iload_n 3, 1) := by decide +kernel
theorem d_L_law_404 : decode b_L_law 404 = .ok (.iconst 1, 1) := by decide +kernel
theorem d_L_law_405 : decode b_L_law 405 = .ok (.iadd, 1) := by decide +kernel
theorem d_L_law_406 : decode b_L_law 406 = .ok (.iaload, 1) := by decide +kernel
theorem d_L_law_407 : decode b_L_law 407 = .ok (.aload_n 0, 1) := by decide +kernel
theorem d_L_law_408 : decode b_L_law 408 = .ok (.iload_n 3, 1) := by decide +kernel
theorem d_L_law_409 : decode b_L_law 409 = .ok (.iconst 2, 1) := by decide +kernel
theorem d_L_law_410 : decode b_L_law 410 = .ok (.iadd, 1) := by decide +kernel
theorem d_L_law_411 : decode b_L_law 411 = .ok (.iaload, 1) := by decide +kernel
theorem d_L_law_412 : decode b_L_law 412 = .ok (.aload_n 0, 1) := by decide +kernel
theorem d_L_law_413 : decode b_L_law 413 = .ok (.iload_n 3, 1) := by decide +kernel
theorem d_L_law_414 : decode b_L_law 414 = .ok (.iconst 3, 1) := by decide +kernel
theorem d_L_law_415 : decode b_L_law 415 = .ok (.iadd, 1) := by decide +kernel
theorem d_L_law_416 : decode b_L_law 416 = .ok (.iaload, 1) := by decide +kernel
theorem d_L_law_417 : decode b_L_law 417 = .ok (.invokevirtual 70, 3) := by decide +kernel
theorem d_L_law_420 : decode b_L_law 420 = .ok (.aload_n 2, 1) := by decide +kernel
theorem d_L_law_421 : decode b_L_law 421 = .ok (.aload_n 0, 1) := by decide +kernel
theorem d_L_law_422 : decode b_L_law 422 = .ok (.iload_n 3, 1) := by decide +kernel
theorem d_L_law_423 : decode b_L_law 423 = .ok (.iconst 1, 1) := by decide +kernel
theorem d_L_law_424 : decode b_L_law 424 = .ok (.iadd, 1) := by decide +kernel
theorem d_L_law_425 : decode b_L_law 425 = .ok (.iaload, 1) := by decide +kernel
theorem d_L_law_426 : decode b_L_law 426 = .ok (.aload_n 0, 1) := by decide +kernel
theorem d_L_law_427 : decode b_L_law 427 = .ok (.iload_n 3, 1) := by decide +kernel
theorem d_L_law_428 : decode b_L_law 428 = .ok (.iconst 2, 1) := by decide +kernel
theorem d_L_law_429 : decode b_L_law 429 = .ok (.iadd, 1) := by decide +kernel
theorem d_L_law_430 : decode b_L_law 430 = .ok (.iaload, 1) := by decide +kernel
theorem d_L_law_431 : decode b_L_law 431 = .ok (.aload_n 0, 1) := by decide +kernel
theorem d_L_law_432 : decode b_L_law 432 = .ok (.iload_n 3, 1) := by decide +kernel
theorem d_L_law_433 : decode b_L_law 433 = .ok (.iconst 3, 1) := by decide +kernel
theorem d_L_law_434 : decode b_L_law 434 = .ok (.iadd, 1) := by decide +kernel
theorem d_L_law_435 : decode b_L_law 435 = .ok (.iaload, 1) := by decide +kernel
theorem d_L_law_436 : decode b_L_law 436 = .ok (.invokevirtual 73, 3) := by decide +kernel
theorem d_L_law_439 : decode b_L_law 439 = .ok (.if_icmp .eq 204, 3) := by decide +kernel
theorem d_L_law_442 : decode b_L_law 442 = .ok (.iconst 0, 1) := by decide +kernel
theorem d_L_law_443 : decode b_L_law 443 = .ok (.ireturn, 1) := by decide +kernel
theorem d_L_law_444 : decode b_L_law 444 = .ok (.aload_n 1, 1) := by decide +kernel
theorem d_L_law_445 : decode b_L_law 445 = .ok (.aload_n 0, 1) := by decide +kernel
theorem d_L_law_446 : decode b_L_law 446 = .ok (.iload_n 3, 1) := by decide +kernel
theorem d_L_law_447 : decode b_L_law 447 = .ok (.iconst 1, 1) := by decide +kernel
theorem d_L_law_448 : decode b_L_law 448 = .ok (.iadd, 1) := by decide +kernel
theorem d_L_law_449 : decode b_L_law 449 = .ok (.iaload, 1) := by decide +kernel
theorem d_L_law_450 : decode b_L_law 450 = .ok (.aload_n 0, 1) := by decide +kernel
theorem d_L_law_451 : decode b_L_law 451 = .ok (.iload_n 3, 1) := by decide +kernel
theorem d_L_law_452 : decode b_L_law 452 = .ok (.iconst 2, 1) := by decide +kernel
theorem d_L_law_453 : decode b_L_law 453 = .ok (.iadd, 1) := by decide +kernel
theorem d_L_law_454 : decode b_L_law 454 = .ok (.iaload, 1) := by decide +kernel
theorem d_L_law_455 : decode b_L_law 455 = .ok (.i2l, 1) := by decide +kernel
theorem d_L_law_456 : decode b_L_law 456 = .ok (.bipush 32, 2) := by decide +kernel
theorem d_L_law_458 : decode b_L_law 458 = .ok (.lshl, 1) := by decide +kernel
theorem d_L_law_459 : decode b_L_law 459 = .ok (.aload_n 0, 1) := by decide +kernel
theorem d_L_law_460 : decode b_L_law 460 = .ok (.iload_n 3, 1) := by decide +kernel
theorem d_L_law_461 : decode b_L_law 461 = .ok (.iconst 3, 1) := by decide +kernel
theorem d_L_law_462 : decode b_L_law 462 = .ok (.iadd, 1) := by decide +kernel
theorem d_L_law_463 : decode b_L_law 463 = .ok (.iaload, 1) := by decide +kernel
theorem d_L_law_464 : decode b_L_law 464 = .ok (.i2l, 1) := by decide +kernel
theorem d_L_law_465 : decode b_L_law 465 = .ok (.ldc2_w 74, 3) := by decide +kernel
theorem d_L_law_468 : decode b_L_law 468 = .ok (.land, 1) := by decide +kernel
theorem d_L_law_469 : decode b_L_law 469 = .ok (.lor, 1) := by decide +kernel
theorem d_L_law_470 : decode b_L_law 470 = .ok (.aload_n 0, 1) := by decide +kernel
theorem d_L_law_471 : decode b_L_law 471 = .ok (.iload_n 3, 1) := by decide +kernel
theorem d_L_law_472 : decode b_L_law 472 = .ok (.iconst 4, 1) := by decide +kernel
theorem d_L_law_473 : decode b_L_law 473 = .ok (.iadd, 1) := by decide +kernel
theorem d_L_law_474 : decode b_L_law 474 = .ok (.iaload, 1) := by decide +kernel
theorem d_L_law_475 : decode b_L_law 475 = .ok (.invokevirtual 76, 3) := by decide +kernel
theorem d_L_law_478 : decode b_L_law 478 = .ok (.aload_n 2, 1) := by decide +kernel
theorem d_L_law_479 : decode b_L_law 479 = .ok (.aload_n 0, 1) := by decide +kernel
theorem d_L_law_480 : decode b_L_law 480 = .ok (.iload_n 3, 1) := by decide +kernel
theorem d_L_law_481 : decode b_L_law 481 = .ok (.iconst 1, 1) := by decide +kernel
theorem d_L_law_482 : decode b_L_law 482 = .ok (.iadd, 1) := by decide +kernel
theorem d_L_law_483 : decode b_L_law 483 = .ok (.iaload, 1) := by decide +kernel
theorem d_L_law_484 : decode b_L_law 484 = .ok (.aload_n 0, 1) := by decide +kernel
theorem d_L_law_485 : decode b_L_law 485 = .ok (.iload_n 3, 1) := by decide +kernel
theorem d_L_law_486 : decode b_L_law 486 = .ok (.iconst 2, 1) := by decide +kernel
theorem d_L_law_487 : decode b_L_law 487 = .ok (.iadd, 1) := by decide +kernel
theorem d_L_law_488 : decode b_L_law 488 = .ok (.iaload, 1) := by decide +kernel
theorem d_L_law_489 : decode b_L_law 489 = .ok (.i2l, 1) := by decide +kernel
theorem d_L_law_490 : decode b_L_law 490 = .ok (.bipush 32, 2) := by decide +kernel
theorem d_L_law_492 : decode b_L_law 492 = .ok (.lshl, 1) := by decide +kernel
theorem d_L_law_493 : decode b_L_law 493 = .ok (.aload_n 0, 1) := by decide +kernel
theorem d_L_law_494 : decode b_L_law 494 = .ok (.iload_n 3, 1) := by decide +kernel
theorem d_L_law_495 : decode b_L_law 495 = .ok (.iconst 3, 1) := by decide +kernel
theorem d_L_law_496 : decode b_L_law 496 = .ok (.iadd, 1) := by decide +kernel
theorem d_L_law_497 : decode b_L_law 497 = .ok (.iaload, 1) := by decide +kernel
theorem d_L_law_498 : decode b_L_law 498 = .ok (.i2l, 1) := by decide +kernel
theorem d_L_law_499 : decode b_L_law 499 = .ok (.ldc2_w 74, 3) := by decide +kernel
theorem d_L_law_502 : decode b_L_law 502 = .ok (.land, 1) := by decide +kernel
theorem d_L_law_503 : decode b_L_law 503 = .ok (.lor, 1) := by decide +kernel
theorem d_L_law_504 : decode b_L_law 504 = .ok (.aload_n 0, 1) := by decide +kernel
theorem d_L_law_505 : decode b_L_law 505 = .ok (.iload_n 3, 1) := by decide +kernel
theorem d_L_law_506 : decode b_L_law 506 = .ok (.iconst 4, 1) := by decide +kernel
theorem d_L_law_507 : decode b_L_law 507 = .ok (.iadd, 1) := by decide +kernel
theorem d_L_law_508 : decode b_L_law 508 = .ok (.iaload, 1) := by decide +kernel
theorem d_L_law_509 : decode b_L_law 509 = .ok (.invokevirtual 80, 3) := by decide +kernel
theorem d_L_law_512 : decode b_L_law 512 = .ok (.if_icmp .eq 131, 3) := by decide +kernel
theorem d_L_law_515 : decode b_L_law 515 = .ok (.iconst 0, 1) := by decide +kernel
theorem d_L_law_516 : decode b_L_law 516 = .ok (.ireturn, 1) := by decide +kernel
theorem d_L_law_517 : decode b_L_law 517 = .ok (.aload_n 1, 1) := by decide +kernel
theorem d_L_law_518 : decode b_L_law 518 = .ok (.aload_n 0, 1) := by decide +kernel
theorem d_L_law_519 : decode b_L_law 519 = .ok (.iload_n 3, 1) := by decide +kernel
theorem d_L_law_520 : decode b_L_law 520 = .ok (.iconst 1, 1) := by decide +kernel
theorem d_L_law_521 : decode b_L_law 521 = .ok (.iadd, 1) := by decide +kernel
theorem d_L_law_522 : decode b_L_law 522 = .ok (.iaload, 1) := by decide +kernel
theorem d_L_law_523 : decode b_L_law 523 = .ok (.aload_n 0, 1) := by decide +kernel
theorem d_L_law_524 : decode b_L_law 524 = .ok (.iload_n 3, 1) := by decide +kernel
theorem d_L_law_525 : decode b_L_law 525 = .ok (.iconst 2, 1) := by decide +kernel
theorem d_L_law_526 : decode b_L_law 526 = .ok (.iadd, 1) := by decide +kernel
theorem d_L_law_527 : decode b_L_law 527 = .ok (.iaload, 1) := by decide +kernel
theorem d_L_law_528 : decode b_L_law 528 = .ok (.invokevirtual 81, 3) := by decide +kernel
theorem d_L_law_531 : decode b_L_law 531 = .ok (.aload_n 2, 1) := by decide +kernel
theorem d_L_law_532 : decode b_L_law 532 = .ok (.aload_n 0, 1) := by decide +kernel
theorem d_L_law_533 : decode b_L_law 533 = .ok (.iload_n 3, 1) := by decide +kernel
theorem d_L_law_534 : decode b_L_law 534 = .ok (.iconst 1, 1) := by decide +kernel
theorem d_L_law_535 : decode b_L_law 535 = .ok (.iadd, 1) := by decide +kernel
theorem d_L_law_536 : decode b_L_law 536 = .ok (.iaload, 1) := by decide +kernel
theorem d_L_law_537 : decode b_L_law 537 = .ok (.aload_n 0, 1) := by decide +kernel
theorem d_L_law_538 : decode b_L_law 538 = .ok (.iload_n 3, 1) := by decide +kernel
theorem d_L_law_539 : decode b_L_law 539 = .ok (.iconst 2, 1) := by decide +kernel
theorem d_L_law_540 : decode b_L_law 540 = .ok (.iadd, 1) := by decide +kernel
theorem d_L_law_541 : decode b_L_law 541 = .ok (.iaload, 1) := by decide +kernel
theorem d_L_law_542 : decode b_L_law 542 = .ok (.invokevirtual 84, 3) := by decide +kernel
theorem d_L_law_545 : decode b_L_law 545 = .ok (.if_icmp .eq 98, 3) := by decide +kernel
theorem d_L_law_548 : decode b_L_law 548 = .ok (.iconst 0, 1) := by decide +kernel
theorem d_L_law_549 : decode b_L_law 549 = .ok (.ireturn, 1) := by decide +kernel
theorem d_L_law_550 : decode b_L_law 550 = .ok (.aload_n 1, 1) := by decide +kernel
theorem d_L_law_551 : decode b_L_law 551 = .ok (.aload_n 0, 1) := by decide +kernel
theorem d_L_law_552 : decode b_L_law 552 = .ok (.iload_n 3, 1) := by decide +kernel
theorem d_L_law_553 : decode b_L_law 553 = .ok (.iconst 1, 1) := by decide +kernel
theorem d_L_law_554 : decode b_L_law 554 = .ok (.iadd, 1) := by decide +kernel
theorem d_L_law_555 : decode b_L_law 555 = .ok (.iaload, 1) := by decide +kernel
theorem d_L_law_556 : decode b_L_law 556 = .ok (.invokevirtual 85, 3) := by decide +kernel
theorem d_L_law_559 : decode b_L_law 559 = .ok (.aload_n 2, 1) := by decide +kernel
theorem d_L_law_560 : decode b_L_law 560 = .ok (.aload_n 0, 1) := by decide +kernel
theorem d_L_law_561 : decode b_L_law 561 = .ok (.iload_n 3, 1) := by decide +kernel
theorem d_L_law_562 : decode b_L_law 562 = .ok (.iconst 1, 1) := by decide +kernel
theorem d_L_law_563 : decode b_L_law 563 = .ok (.iadd, 1) := by decide +kernel
theorem d_L_law_564 : decode b_L_law 564 = .ok (.iaload, 1) := by decide +kernel
theorem d_L_law_565 : decode b_L_law 565 = .ok (.invokevirtual 88, 3) := by decide +kernel
theorem d_L_law_568 : decode b_L_law 568 = .ok (.if_icmp .eq 75, 3) := by decide +kernel
theorem d_L_law_571 : decode b_L_law 571 = .ok (.iconst 0, 1) := by decide +kernel
theorem d_L_law_572 : decode b_L_law 572 = .ok (.ireturn, 1) := by decide +kernel
theorem d_L_law_573 : decode b_L_law 573 = .ok (.aload_n 1, 1) := by decide +kernel
theorem d_L_law_574 : decode b_L_law 574 = .ok (.aload_n 0, 1) := by decide +kernel
theorem d_L_law_575 : decode b_L_law 575 = .ok (.iload_n 3, 1) := by decide +kernel
theorem d_L_law_576 : decode b_L_law 576 = .ok (.iconst 1, 1) := by decide +kernel
theorem d_L_law_577 : decode b_L_law 577 = .ok (.iadd, 1) := by decide +kernel
theorem d_L_law_578 : decode b_L_law 578 = .ok (.iaload, 1) := by decide +kernel
theorem d_L_law_579 : decode b_L_law 579 = .ok (.invokevirtual 89, 3) := by decide +kernel
theorem d_L_law_582 : decode b_L_law 582 = .ok (.aload_n 2, 1) := by decide +kernel
theorem d_L_law_583 : decode b_L_law 583 = .ok (.aload_n 0, 1) := by decide +kernel
theorem d_L_law_584 : decode b_L_law 584 = .ok (.iload_n 3, 1) := by decide +kernel
theorem d_L_law_585 : decode b_L_law 585 = .ok (.iconst 1, 1) := by decide +kernel
theorem d_L_law_586 : decode b_L_law 586 = .ok (.iadd, 1) := by decide +kernel
theorem d_L_law_587 : decode b_L_law 587 = .ok (.iaload, 1) := by decide +kernel
theorem d_L_law_588 : decode b_L_law 588 = .ok (.invokevirtual 92, 3) := by decide +kernel
theorem d_L_law_591 : decode b_L_law 591 = .ok (.if_icmp .eq 52, 3) := by decide +kernel
theorem d_L_law_594 : decode b_L_law 594 = .ok (.iconst 0, 1) := by decide +kernel
theorem d_L_law_595 : decode b_L_law 595 = .ok (.ireturn, 1) := by decide +kernel
theorem d_L_law_596 : decode b_L_law 596 = .ok (.aload_n 1, 1) := by decide +kernel
theorem d_L_law_597 : decode b_L_law 597 = .ok (.aload_n 0, 1) := by decide +kernel
theorem d_L_law_598 : decode b_L_law 598 = .ok (.iload_n 3, 1) := by decide +kernel
theorem d_L_law_599 : decode b_L_law 599 = .ok (.iconst 1, 1) := by decide +kernel
theorem d_L_law_600 : decode b_L_law 600 = .ok (.iadd, 1) := by decide +kernel
theorem d_L_law_601 : decode b_L_law 601 = .ok (.iaload, 1) := by decide +kernel
theorem d_L_law_602 : decode b_L_law 602 = .ok (.invokevirtual 93, 3) := by decide +kernel
theorem d_L_law_605 : decode b_L_law 605 = .ok (.aload_n 2, 1) := by decide +kernel
theorem d_L_law_606 : decode b_L_law 606 = .ok (.aload_n 0, 1) := by decide +kernel
theorem d_L_law_607 : decode b_L_law 607 = .ok (.iload_n 3, 1) := by decide +kernel
theorem d_L_law_608 : decode b_L_law 608 = .ok (.iconst 1, 1) := by decide +kernel
theorem d_L_law_609 : decode b_L_law 609 = .ok (.iadd, 1) := by decide +kernel
theorem d_L_law_610 : decode b_L_law 610 = .ok (.iaload, 1) := by decide +kernel
theorem d_L_law_611 : decode b_L_law 611 = .ok (.invokevirtual 96, 3) := by decide +kernel
theorem d_L_law_614 : decode b_L_law 614 = .ok (.if_icmp .eq 29, 3) := by decide +kernel
theorem d_L_law_617 : decode b_L_law 617 = .ok (.iconst 0, 1) := by decide +kernel
theorem d_L_law_618 : decode b_L_law 618 = .ok (.ireturn, 1) := by decide +kernel
theorem d_L_law_619 : decode b_L_law 619 = .ok (.aload_n 1, 1) := by decide +kernel
theorem d_L_law_620 : decode b_L_law 620 = .ok (.aload_n 0, 1) := by decide +kernel
theorem d_L_law_621 : decode b_L_law 621 = .ok (.iload_n 3, 1) := by decide +kernel
theorem d_L_law_622 : decode b_L_law 622 = .ok (.iconst 1, 1) := by decide +kernel
theorem d_L_law_623 : decode b_L_law 623 = .ok (.iadd, 1) := by decide +kernel
theorem d_L_law_624 : decode b_L_law 624 = .ok (.iaload, 1) := by decide +kernel
theorem d_L_law_625 : decode b_L_law 625 = .ok (.invokevirtual 97, 3) := by decide +kernel
theorem d_L_law_628 : decode b_L_law 628 = .ok (.aload_n 2, 1) := by decide +kernel
theorem d_L_law_629 : decode b_L_law 629 = .ok (.aload_n 0, 1) := by decide +kernel
theorem d_L_law_630 : decode b_L_law 630 = .ok (.iload_n 3, 1) := by decide +kernel
theorem d_L_law_631 : decode b_L_law 631 = .ok (.iconst 1, 1) := by decide +kernel
theorem d_L_law_632 : decode b_L_law 632 = .ok (.iadd, 1) := by decide +kernel
theorem d_L_law_633 : decode b_L_law 633 = .ok (.iaload, 1) := by decide +kernel
theorem d_L_law_634 : decode b_L_law 634 = .ok (.invokevirtual 101, 3) := by decide +kernel
theorem d_L_law_637 : decode b_L_law 637 = .ok (.lcmp, 1) := by decide +kernel
theorem d_L_law_638 : decode b_L_law 638 = .ok (.ifCond .eq 5, 3) := by decide +kernel
theorem d_L_law_641 : decode b_L_law 641 = .ok (.iconst 0, 1) := by decide +kernel
theorem d_L_law_642 : decode b_L_law 642 = .ok (.ireturn, 1) := by decide +kernel
theorem d_L_law_643 : decode b_L_law 643 = .ok (.iinc 3 5, 3) := by decide +kernel
theorem d_L_law_646 : decode b_L_law 646 = .ok (.goto (-618), 3) := by decide +kernel
theorem d_L_law_649 : decode b_L_law 649 = .ok (.iconst 1, 1) := by decide +kernel
theorem d_L_law_650 : decode b_L_law 650 = .ok (.ireturn, 1) := by decide +kernel
end
section
/-! A layer over the kit: the heap as ONE pool, a list of addresses and what each holds; methods by contract over it. -/
section

/-- the classes' numbers, and the numbers of int[], boolean[], int[][], Link[] -/
abbrev hl_G : Type := va_G × (ClassId × ClassId × ClassId × ClassId)
abbrev hl_ty (g : hl_G) : List (ClassId × FieldType) := [(g.2.1, .int), (g.2.2.1, .boolean), (g.2.2.2.1, .array .int), (g.2.2.2.2, .object R_K)]

def hl_AOA (U : State) : Prop := (Cond.arrayOver (.array .int)).before #[] U = true
theorem hl_AOA.moved {u U : State} (hvm : u.vm.Alike U.vm) (h : hl_AOA u) : hl_AOA U := by
  obtain ⟨comp, c, k, h1, h2, h3, h4, h5⟩ := arrayOverA_spec h
  obtain ⟨k', hk', he⟩ := hvm.2.2 _ _ h3
  have hi : (U.vm.classes.findIdx? fun (x : Class) => match x.kind with | .array component _ => component == comp | _ => false) = some c := by
    refine Eq.trans (va_idx_bare U.vm comp).symm ?_
    first | rw [hvm.bare_eq] | rw [← hvm.bare_eq]
    exact Eq.trans (va_idx_bare _ comp) h2
  have hkind : k'.kind = .array comp (.array .int) := by rw [he]; exact h4
  have f1 : U.vm.findClass (FieldType.array .int).toString = some comp := by rw [hvm.findClass]; exact h1
  have f2 : U.vm.findClass ("[" ++ (FieldType.array .int).toString) = some c := by rw [hvm.findClass]; exact h5
  unfold hl_AOA Cond.before Cond.holds
  simp only [Cond.value]
  rw [f1, Option.bind_some]
  refine (congrArg (fun o : Option Nat => (o.bind (fun c => (U.vm.classes[c]?).map fun (k : Class) => match k.kind with | .array _ ty => decide (ty = FieldType.array .int) && decide (U.vm.findClass ("[" ++ (FieldType.array .int).toString) = some c) | _ => false) == some true)) hi).trans ?_
  simp [hk', hkind, f2]

abbrev hl_nK : Cond := .methodLinkNest "CycleGroups$Link" 37 y_C_leaveAll "CycleGroups"
abbrev hl_nP : Cond := .methodLinkNest "CycleGroups$Partition" 13 y_C_leaveAll "CycleGroups"

/-- what is known of the tables at every moment -/
def hl_K (g : hl_G) (U : State) : Prop :=
  va_K g.1 classes (hl_ty g) U ∧ va_AO R_K U ∧ hl_AOA U ∧ va_Nw hl_nK U ∧ va_Nw hl_nP U

theorem hl_K.warm {g : hl_G} {s U : State} (hW : s.WarmedH U.vm) (h : hl_K g s) : hl_K g U :=
  ⟨va_K.moved hW.alike h.1, va_AO.moved hW.alike h.2.1, hl_AOA.moved hW.alike h.2.2.1, va_Nw.warmM hW h.2.2.2.1, va_Nw.warmM hW h.2.2.2.2⟩

theorem hl_K.same {g : hl_G} {s U : State} (h0 : s.vm = U.vm) (h : hl_K g s) : hl_K g U := by
  have ha : s.vm.Alike U.vm := by rw [← h0]; exact Vm.Alike.refl s.vm
  exact ⟨va_K.moved ha h.1, va_AO.moved ha h.2.1, hl_AOA.moved ha h.2.2.1, va_Nw.same rfl h0 h.2.2.2.1, va_Nw.same rfl h0 h.2.2.2.2⟩

/-- the heap as one pool: L its addresses, f what each holds; A what may change since H0 -/
def hl_H (g : hl_G) (A : Nat → Prop) (H0 : Heap) (L : List Nat) (f : Nat → va_E) (H : Heap) (locs : List Loc) : Prop :=
  va_P g.1 classes (va_pl L f) H ∧ va_D A (va_pl L f) ∧ va_S A H0 H locs ∧ ∀ q, H0.size ≤ q → A q

/-- a method's words: its own code, and the tables -/
def hq (y : MethodName) (b : ByteArray) (n : Nat) (r : Option FieldType) : List Cond := Cond.code y b n r :: tg

theorem hq_good {y : MethodName} {b : ByteArray} {n : Nat} {r : Option FieldType} (h : Cond.code y b n r ∈ tg) : GoodIn tg (hq y b n r) := by
  intro w hw
  rcases List.mem_cons.1 hw with rfl | hw
  · exact ⟨h, tg_good _ h⟩
  · exact ⟨hw, tg_good _ hw⟩

abbrev hm_A (sz : Nat) (L : List Nat) : Nat → Prop := fun q => q ∈ L ∨ sz ≤ q

/-- a contract's start: the arguments, the pool -/
def hm_P (g : hl_G) (av : List Value) (sz : Nat) (L : List Nat) (f : Nat → va_E) : Array Value → State → Prop :=
  va_Pc av (fun U => U.heap.size = sz ∧ va_P g.1 classes (va_pl L f) U.heap ∧ hl_K g U ∧ va_D (fun _ => True) (va_pl L f))

/-- its end: the pool then -/
def hm_B (g : hl_G) (sz : Nat) (L : List Nat) : List Nat × (Nat → va_E) → State → Prop :=
  fun u t => va_P g.1 classes (va_pl u.1 u.2) t.heap ∧ va_D (hm_A sz L) (va_pl u.1 u.2)

theorem hl_mem {L : List Nat} {f : Nat → va_E} {k : Nat} {q : Nat × va_E} (h : (va_pl L f)[k]? = some q) : q.1 ∈ L := by
  have := List.mem_of_getElem? h
  obtain ⟨a, ha, rfl⟩ := List.mem_map.1 this
  exact ha

theorem hl_at {L : List Nat} {f : Nat → va_E} {a : Nat} {x : va_E} (h : a ∈ L) (hf : f a = x) : ∃ k : Nat, (va_pl L f)[k]? = some (a, x) := by
  obtain ⟨k, hk⟩ := va_pl_get (X := []) (f := f) h
  rw [hf] at hk
  exact ⟨k, hk⟩

theorem hl_set {A : Nat → Prop} {L : List Nat} {f : Nat → va_E} {a k : Nat} {x e : va_E} (hD : va_D A (va_pl L f)) (h : a ∈ L) (hf : f a = x)
    (hk : (va_pl L f)[k]? = some (a, x)) : (va_pl L f).set k (a, e) = va_pl L (va_up f a e) := by
  subst hf
  exact va_pl_set (X := []) hD h hk

section
variable {p : Program} {l : Launch} {e : Env} {R : Room} {s : State} {m : MethodId} {args : Array Value} {below : List Frame} {meth : Method} {c : Code} {H : Heap} {locs : List Loc} {cells slots : Nat} {Q : State → Prop}
variable {cc : ByteArray} {pc nL : Nat} {ls : Array Slot} {rest : List Value} {g : hl_G} {A : Nat → Prop} {a : Nat} {H0 : Heap} {own : String} {L : List Nat} {f : Nat → va_E}

theorem hl_get (X : CallFix p m c cc nL s args tg own) (hK : hl_K g s) (h : hl_H g A H0 L f H locs) {ref C0 : String} {T : u_T} {N ci index : Nat}
    (hin : ∀ w ∈ u_ws C0 T N, w ∈ tg) (hc : classes[ci]? = some (C0, T, N)) (k : Nat) (hk : k < N)
    (hlink : Cond.fieldLink own index ref (T k).2.1 (T k).2.2.1 ∈ tg) (hsame : (T k).1 = ref) {fs : List Value} {v : Value}
    (ha : a ∈ L) (hfa : f a = .inr (ci, fs)) (hv : fs[k]? = some v) (hdg : decode cc pc = .ok (.getfield index, 3))
    (kk : W p l e R s m args below meth c H locs cells slots Q (F0 m (pc + 3) ls (v :: rest))) :
    W p l e R s m args below meth c H locs cells slots Q (F0 m pc ls (.ref a :: rest)) := by
  obtain ⟨j, hj⟩ := hl_at ha hfa
  exact va_get X.1 X.2.1 X.2.2.2.2 hin X.2.2.2.1 hK.1 h.1 j hj hc k hk (X.2.2.2.2 _ hlink) (fun x hx => by rw [← hsame]; exact hx) hv hdg kk

theorem hl_put (X : CallFix p m c cc nL s args tg own) (hK : hl_K g s) (h : hl_H g A H0 L f H locs) {ref C0 : String} {T : u_T} {N ci index : Nat}
    (hin : ∀ w ∈ u_ws C0 T N, w ∈ tg) (ty0 : Nat → FieldType) (hty : ∀ k, k < N → parseFieldDescriptor (T k).2.2.1 = some (ty0 k))
    (hnm : ∀ a, a < N → ∀ b, b < N → a ≠ b → (T a).2.1 ≠ (T b).2.1) (hc : classes[ci]? = some (C0, T, N)) (k : Nat) (hk : k < N)
    (hlink : Cond.fieldLink own index ref (T k).2.1 (T k).2.2.1 ∈ tg) (hsame : (T k).1 = ref) (hfin : (T k).2.2.2 = false) {fs : List Value} {v : Value}
    (ha : a ∈ L) (hfa : f a = .inr (ci, fs)) (hn : narrow (ty0 k) v = v) (hfit : fits (ty0 k) v = true) (hl : k < fs.length)
    (hdg : decode cc pc = .ok (.putfield index, 3))
    (kk : ∀ (H1 : Heap) (locs1 : List Loc), hl_H g A H0 L (va_up f a (.inr (ci, fs.set k v))) H1 locs1 →
      W p l e R s m args below meth c H1 locs1 cells slots Q (F0 m (pc + 3) ls rest)) :
    W p l e R s m args below meth c H locs cells slots Q (F0 m pc ls (v :: .ref a :: rest)) := by
  obtain ⟨j, hj⟩ := hl_at ha hfa
  obtain ⟨hP, hD, hS, hA⟩ := h
  refine va_put X.1 X.2.1 X.2.2.2.2 hin ty0 hty hnm X.2.2.2.1 hK.1 hP hD hS j hj hc k hk (X.2.2.2.2 _ hlink) (fun x hx => by rw [← hsame]; exact hx) hfin (hty k hk) hn hfit hl hdg (fun H1 locs1 hP1 hD1 hS1 => ?_)
  rw [hl_set hD ha hfa hj] at hP1 hD1
  exact kk H1 locs1 ⟨hP1, hD1, hS1, hA⟩

theorem hl_putF (X : CallFix p m c cc nL s args tg own) (hK : hl_K g s) (h : hl_H g A H0 L f H locs) (hin2 : meth.name = "<init>") {ref C0 : String} {T : u_T} {N ci index : Nat}
    (hin : ∀ w ∈ u_ws C0 T N, w ∈ tg) (ty0 : Nat → FieldType) (hty : ∀ k, k < N → parseFieldDescriptor (T k).2.2.1 = some (ty0 k))
    (hnm : ∀ a, a < N → ∀ b, b < N → a ≠ b → (T a).2.1 ≠ (T b).2.1) (hc : classes[ci]? = some (C0, T, N)) (k : Nat) (hk : k < N)
    (hlink : Cond.fieldLink own index ref (T k).2.1 (T k).2.2.1 ∈ tg) (hsame : (T k).1 = ref) (hfin : (T k).2.2.2 = true) (hdecl : (T k).1 = own) {fs : List Value} {v : Value}
    (ha : a ∈ L) (hfa : f a = .inr (ci, fs)) (hn : narrow (ty0 k) v = v) (hfit : fits (ty0 k) v = true) (hl : k < fs.length)
    (hdg : decode cc pc = .ok (.putfield index, 3))
    (kk : ∀ (H1 : Heap) (locs1 : List Loc), hl_H g A H0 L (va_up f a (.inr (ci, fs.set k v))) H1 locs1 →
      W p l e R s m args below meth c H1 locs1 cells slots Q (F0 m (pc + 3) ls rest)) :
    W p l e R s m args below meth c H locs cells slots Q (F0 m pc ls (v :: .ref a :: rest)) := by
  obtain ⟨j, hj⟩ := hl_at ha hfa
  obtain ⟨hP, hD, hS, hA⟩ := h
  refine va_putF X.1 X.2.1 X.2.2.2.2 hin ty0 hty hnm X.2.2.2.1 hK.1 hP hD hS j hj hc k hk (X.2.2.2.2 _ hlink) (fun x hx => by rw [← hsame]; exact hx) hfin hin2 hdecl (hty k hk) hn hfit hl hdg (fun H1 locs1 hP1 hD1 hS1 => ?_)
  rw [hl_set hD ha hfa hj] at hP1 hD1
  exact kk H1 locs1 ⟨hP1, hD1, hS1, hA⟩

/-- int rows -/
abbrev hl_row (g : hl_G) (n : Nat) (z : Nat → Int32) : va_E := .inl (g.2.1, n, .inl z)
/-- boolean rows -/
abbrev hl_zow (g : hl_G) (n : Nat) (z : Nat → Int32) : va_E := .inl (g.2.2.1, n, .inl z)
/-- rows of int rows -/
abbrev hl_grd (g : hl_G) (n : Nat) (z : Nat → Option Nat) : va_E := .inl (g.2.2.2.1, n, .inr (.inr (.inr (.inr z))))
/-- rows of links -/
abbrev hl_lks (g : hl_G) (n : Nat) (z : Nat → Option Nat) : va_E := .inl (g.2.2.2.2, n, .inr (.inr (.inr (.inr z))))

theorem hl_iald (X : CallFix p m c cc nL s args tg own) (hK : hl_K g s) (h : hl_H g A H0 L f H locs) {n i : Nat} {z : Nat → Int32}
    (ha : a ∈ L) (hfa : f a = hl_row g n z) (hi : i < n) (hn : n < 2 ^ 31) (hdg : decode cc pc = .ok (.iaload, 1))
    (kk : W p l e R s m args below meth c H locs cells slots Q (F0 m (pc + 1) ls (.int (z i) :: rest))) :
    W p l e R s m args below meth c H locs cells slots Q (F0 m pc ls (.int (nI i) :: .ref a :: rest)) := by
  obtain ⟨j, hj⟩ := hl_at ha hfa
  refine va_iald X.1 X.2.1 hK.1 h.1 j 0 hj rfl (vp_in_nI hi hn) hdg ?_
  rw [nI_clamp (by omega)]
  exact kk

theorem hl_iast (X : CallFix p m c cc nL s args tg own) (hK : hl_K g s) (h : hl_H g A H0 L f H locs) {n i : Nat} {z : Nat → Int32} {x : Int32}
    (ha : a ∈ L) (hfa : f a = hl_row g n z) (hi : i < n) (hn : n < 2 ^ 31) (hdg : decode cc pc = .ok (.iastore, 1))
    (kk : ∀ (H1 : Heap) (locs1 : List Loc), hl_H g A H0 L (va_up f a (hl_row g n (va_up z i x))) H1 locs1 →
      W p l e R s m args below meth c H1 locs1 cells slots Q (F0 m (pc + 1) ls rest)) :
    W p l e R s m args below meth c H locs cells slots Q (F0 m pc ls (.int x :: .int (nI i) :: .ref a :: rest)) := by
  obtain ⟨j, hj⟩ := hl_at ha hfa
  obtain ⟨hP, hD, hS, hA⟩ := h
  refine va_iast X.1 X.2.1 hK.1 hP hD hS j 0 hj rfl (vp_in_nI hi hn) hdg (fun H1 locs1 hP1 hD1 hS1 => ?_)
  rw [hl_set hD ha hfa hj, nI_clamp (by omega)] at hP1 hD1
  exact kk H1 locs1 ⟨hP1, hD1, hS1, hA⟩

theorem hl_alenI (X : CallFix p m c cc nL s args tg own) (hK : hl_K g s) (h : hl_H g A H0 L f H locs) {n : Nat} {z : Nat → Int32}
    (ha : a ∈ L) (hfa : f a = hl_row g n z) (hdg : decode cc pc = .ok (.arraylength, 1))
    (kk : W p l e R s m args below meth c H locs cells slots Q (F0 m (pc + 1) ls (.int (nI n) :: rest))) :
    W p l e R s m args below meth c H locs cells slots Q (F0 m pc ls (.ref a :: rest)) := by
  obtain ⟨j, hj⟩ := hl_at ha hfa
  exact va_alen X.1 X.2.1 hK.1 h.1 j 0 hj rfl rfl hdg kk

theorem hl_alenG (X : CallFix p m c cc nL s args tg own) (hK : hl_K g s) (h : hl_H g A H0 L f H locs) {n : Nat} {z : Nat → Option Nat}
    (ha : a ∈ L) (hfa : f a = hl_grd g n z) (hdg : decode cc pc = .ok (.arraylength, 1))
    (kk : W p l e R s m args below meth c H locs cells slots Q (F0 m (pc + 1) ls (.int (nI n) :: rest))) :
    W p l e R s m args below meth c H locs cells slots Q (F0 m pc ls (.ref a :: rest)) := by
  obtain ⟨j, hj⟩ := hl_at ha hfa
  exact va_alen X.1 X.2.1 hK.1 h.1 j 2 hj rfl rfl hdg kk

theorem hl_aaldG (X : CallFix p m c cc nL s args tg own) (hK : hl_K g s) (h : hl_H g A H0 L f H locs) {n i q : Nat} {z : Nat → Option Nat}
    (ha : a ∈ L) (hfa : f a = hl_grd g n z) (hi : i < n) (hn : n < 2 ^ 31) (hq : z i = some q) (hdg : decode cc pc = .ok (.aaload, 1))
    (kk : W p l e R s m args below meth c H locs cells slots Q (F0 m (pc + 1) ls (.ref q :: rest))) :
    W p l e R s m args below meth c H locs cells slots Q (F0 m pc ls (.int (nI i) :: .ref a :: rest)) := by
  obtain ⟨j, hj⟩ := hl_at ha hfa
  have hlt : (nI i).toNatClampNeg < n := by rw [nI_clamp (by omega)]; exact hi
  refine W.aald (v := .ref q) (ty := .array .int) X.1 X.2.1 (h.1 j _ hj) ((hK.1.2 2 _ rfl).1 n (fun j => va_rf (z j))) rfl (fun q => by cases q) (by show ¬ (nI i < 0 ∨ (arrV _ _ _).slots.size ≤ _); rw [arrV_size]; exact vp_in_nI hi hn) (by show (arrV _ _ _).slots[_]? = _; rw [arrV_read _ _ hlt, nI_clamp (by omega), hq]; rfl) rfl rfl hdg kk

theorem hl_aaldL (X : CallFix p m c cc nL s args tg own) (hK : hl_K g s) (h : hl_H g A H0 L f H locs) {n i q : Nat} {z : Nat → Option Nat}
    (ha : a ∈ L) (hfa : f a = hl_lks g n z) (hi : i < n) (hn : n < 2 ^ 31) (hq : z i = some q) (hdg : decode cc pc = .ok (.aaload, 1))
    (kk : W p l e R s m args below meth c H locs cells slots Q (F0 m (pc + 1) ls (.ref q :: rest))) :
    W p l e R s m args below meth c H locs cells slots Q (F0 m pc ls (.int (nI i) :: .ref a :: rest)) := by
  obtain ⟨j, hj⟩ := hl_at ha hfa
  refine va_aldq X.1 X.2.1 hK.1 h.1 j 3 hj rfl (vp_in_nI hi hn) hdg ?_
  rw [nI_clamp (by omega), hq]
  exact kk

end

end
end
section
/-! The layer: a method's start and end, calls, new cells, boolean rows, copies. -/
section

theorem hl_push {A : Nat → Prop} {L : List Nat} {f : Nat → va_E} {q : Nat} {x : va_E} (hD : va_D A (va_pl L f ++ [(q, x)])) :
    q ∉ L ∧ va_pl L f ++ [(q, x)] = va_pl (L ++ [q]) (va_up f q x) := by
  have hq : q ∉ L := by
    intro h
    obtain ⟨k, hk⟩ := hl_at (f := f) h rfl
    have hlt : k < (va_pl L f).length := (List.getElem?_eq_some_iff.1 hk).1
    have h1 : (va_pl L f ++ [(q, x)])[k]? = some (q, f q) := by rw [List.getElem?_append_left hlt]; exact hk
    have h2 : (va_pl L f ++ [(q, x)])[(va_pl L f).length]? = some (q, x) := by
      rw [List.getElem?_append_right (Nat.le_refl _), Nat.sub_self]; rfl
    have := hD.1 k (va_pl L f).length _ _ h1 h2 rfl
    omega
  exact ⟨hq, va_pl_push hq⟩

theorem hl_blind {g : hl_G} {av : List Value} {sz : Nat} {L : List Nat} {f : Nat → va_E} : FrameBlind (hm_P g av sz L f) :=
  fun a U g' mk q => by
    obtain ⟨q0, q1, qP, qK, qD⟩ := q
    exact ⟨q0, q1, qP, hl_K.same rfl qK, qD⟩

theorem hm_ofW {l : Launch} {g : hl_G} {y : MethodName} {b : ByteArray} {n : Nat} {r : Option FieldType} {rm : Room} {av : List Value} {sz : Nat} {L : List Nat}
    {f : Nat → va_E} {Qc : Array Value → State → Outcome → State → Prop} {mc ms : Nat} {free : Addr → Prop} (hy : plainName y.cls = true) (hlen : (lg_sl av).length ≤ n)
    (body : ∀ (p : Program) (e : Env) (s : State) (m : MethodId) (below : List Frame) (meth : Method) (c : Code), CallFix p m c b n s av.toArray tg y.cls →
      meth.sig.returnType = r → meth.locks = false → meth.name = y.name → hl_K g s → s.heap.size = sz → hl_H g (hm_A sz L) s.heap L f s.heap [] →
      ∀ ls, lv_has ls n (lv_args 0 av) → W p l e rm s m av.toArray below meth c s.heap [] 0 0 (MQ below Qc av.toArray s mc ms free) (F0 m 0 ls [])) :
    Met l y (hq y b n r) rm (hm_P g av sz L f) Qc mc ms free := by
  refine Met.ofW (cc := b) (maxL := n) (ret := r) hy rfl ?_
  intro p e s m args below meth c s₁ B hml hv
  obtain ⟨rfl, hsz, hP, hK, hD0⟩ := hv
  have hts := atoms_spec (ws := hq y b n r) B.pre
  have hX : CallFix p m c b n s av.toArray tg y.cls := ⟨B.exec, B.bytes, hml, findClass_of_methodNamed B.named, fun w hw => hts w (List.mem_cons_of_mem _ hw)⟩
  rw [lg_entry_eq]
  exact body p e s m below meth c hX B.returns B.notSynchronized (name_of_methodNamed B.named B.method).1 hK hsz
    ⟨hP, ⟨hD0.1, fun k q hk => Or.inl (hl_mem hk)⟩, va_S.rf, fun q hq => Or.inr (hsz ▸ hq)⟩ _ (lv_entry av hlen)

section
variable {p : Program} {l : Launch} {e : Env} {R : Room} {s : State} {m : MethodId} {args : Array Value} {below : List Frame} {meth : Method} {c : Code} {H : Heap} {locs : List Loc} {cells slots : Nat} {Q : State → Prop}
variable {cc : ByteArray} {pc nL : Nat} {ls : Array Slot} {rest st : List Value} {g : hl_G} {A : Nat → Prop} {a : Nat} {H0 : Heap} {own : String} {L : List Nat} {f : Nat → va_E}

/-! ### ends -/
section
variable {sz mc ms : Nat} {L0 : List Nat}
theorem hm_iret {post : Int32 → List Nat × (Nat → va_E) → Prop} {v : Int32} (X : CallFix p m c cc nL s args tg own) (hr : meth.sig.returnType = some .int) (hlk : meth.locks = false)
    (h : hl_H g (hm_A sz L0) s.heap L f H locs) (hp : post v (L, f)) (h1 : cells ≤ mc) (h2 : slots ≤ ms) (hdg : decode cc pc = .ok (.ireturn, 1)) :
    W p l e R s m args below meth c H locs cells slots (MQ below (va_Qi post (hm_B g sz L0) (hm_A sz L0)) args s mc ms (hm_A sz L0)) (F0 m pc ls [.int v]) := by
  refine W.widen h1 h2 ?_
  exact W.iret X.1 X.2.1 hr (fun t ht hW => ⟨⟨v, (L, f), rfl, hp, by rw [ht]; exact h.1, h.2.1⟩, h.2.2.1.F ht⟩) h.2.2.1.2.2 hdg hlk

theorem hm_zret {post : Int32 → List Nat × (Nat → va_E) → Prop} {v : Int32} (X : CallFix p m c cc nL s args tg own) (hr : meth.sig.returnType = some .boolean) (hlk : meth.locks = false)
    (h : hl_H g (hm_A sz L0) s.heap L f H locs) (hv : v = 0 ∨ v = 1) (hp : post v (L, f)) (h1 : cells ≤ mc) (h2 : slots ≤ ms) (hdg : decode cc pc = .ok (.ireturn, 1)) :
    W p l e R s m args below meth c H locs cells slots (MQ below (va_Qi post (hm_B g sz L0) (hm_A sz L0)) args s mc ms (hm_A sz L0)) (F0 m pc ls [.int v]) := by
  refine W.widen h1 h2 ?_
  refine W.zret (ty := .boolean) X.1 X.2.1 hr ?_ (fun t ht hW => ⟨⟨v, (L, f), rfl, hp, by rw [ht]; exact h.1, h.2.1⟩, h.2.2.1.F ht⟩) h.2.2.1.2.2 hdg hlk
  rcases hv with rfl | rfl <;> rfl

theorem hm_vret {post : List Nat × (Nat → va_E) → Prop} (X : CallFix p m c cc nL s args tg own) (hr : meth.sig.returnType = none) (hlk : meth.locks = false)
    (h : hl_H g (hm_A sz L0) s.heap L f H locs) (hp : post (L, f)) (h1 : cells ≤ mc) (h2 : slots ≤ ms) (hdg : decode cc pc = .ok (.return_, 1)) :
    W p l e R s m args below meth c H locs cells slots (MQ below (va_Qv post (hm_B g sz L0) (hm_A sz L0)) args s mc ms (hm_A sz L0)) (F0 m pc ls []) := by
  refine W.widen h1 h2 ?_
  exact W.vret X.1 X.2.1 hr (fun t ht hW => ⟨⟨(L, f), rfl, hp, by rw [ht]; exact h.1, h.2.1⟩, h.2.2.1.F ht⟩) h.2.2.1.2.2 hdg hlk

theorem hm_lret {post : Int64 → List Nat × (Nat → va_E) → Prop} {v : Int64} (X : CallFix p m c cc nL s args tg own) (hr : meth.sig.returnType = some .long) (hlk : meth.locks = false)
    (h : hl_H g (hm_A sz L0) s.heap L f H locs) (hp : post v (L, f)) (h1 : cells ≤ mc) (h2 : slots ≤ ms) (hdg : decode cc pc = .ok (.lreturn, 1)) :
    W p l e R s m args below meth c H locs cells slots (MQ below (va_Ql post (hm_B g sz L0) (hm_A sz L0)) args s mc ms (hm_A sz L0)) (F0 m pc ls [.long v]) := by
  refine W.widen h1 h2 ?_
  exact W.lret X.1 X.2.1 hr (fun t ht hW => ⟨⟨v, (L, f), rfl, hp, by rw [ht]; exact h.1, h.2.1⟩, h.2.2.1.F ht⟩) h.2.2.1.2.2 hdg hlk

/-- an answer that is a cell -/
theorem hm_aret {post : List Nat × (Nat → va_E) → Prop} {a0 : Nat} {C0 : String} (X : CallFix p m c cc nL s args tg own) (hr : meth.sig.returnType = some (.object C0)) (hlk : meth.locks = false)
    (h : hl_H g (hm_A sz L0) s.heap L f H locs) (hp : post (L, f)) (h1 : cells ≤ mc) (h2 : slots ≤ ms) (hdg : decode cc pc = .ok (.areturn, 1)) :
    W p l e R s m args below meth c H locs cells slots (MQ below (va_Qr post (fun u b t => b = a0 ∧ hm_B g sz L0 u t) (hm_A sz L0)) args s mc ms (hm_A sz L0)) (F0 m pc ls [.ref a0]) := by
  refine W.widen h1 h2 ?_
  exact W.aret X.1 X.2.1 hr (Or.inl ⟨_, rfl⟩) (Or.inr ⟨_, rfl⟩) (fun t ht hW => ⟨⟨(L, f), a0, rfl, hp, rfl, by rw [ht]; exact h.1, h.2.1⟩, h.2.2.1.F ht⟩) h.2.2.1.2.2 hdg hlk
end

/-! ### calls -/
theorem hl_inA (h : hl_H g A H0 L f H locs) : ∀ q, hm_A H.size L q → A q := by
  intro q hq
  rcases hq with hq | hq
  · obtain ⟨k, hk⟩ := hl_at (f := f) hq rfl
    exact h.2.1.2 k _ hk
  · exact h.2.2.2 q (Nat.le_trans h.2.2.1.1 hq)

section
variable {y : MethodName} {b : ByteArray} {n : Nat} {r : Option FieldType} {rm : Room} {Qc : Array Value → State → Outcome → State → Prop} {mc ms idx k o ci : Nat}
  {As fs : List Value} {q : vw_C}

theorem hl_runV (X : CallFix p m c cc nL s args tg own) (hK : hl_K g s) (h : hl_H g A H0 L f H locs)
    (M : Met l y (hq y b n r) rm (hm_P g (.ref o :: As) H.size L f) Qc mc ms (hm_A H.size L)) (hcode : Cond.code y b n r ∈ tg)
    (hlink : Cond.methodLink own idx y ∈ tg) (hini : Cond.initialized y.cls ∈ tg) (hinst : Cond.instanceMethod y ∈ tg) (hsel : Cond.selects y.cls y y ∈ tg)
    (hd : y.cls ≠ "java/lang/invoke/MethodHandle" ∧ y.cls ≠ "java/lang/invoke/VarHandle" ∧ (parseMethodDescriptor y.desc).map (fun d => d.parameters.length) = some k)
    (hrc : rm.cells = mc) (hrs : rm.slots = ms) (hR : rm.frames + 1 ≤ R.frames ∧ 8 + (n + 11) + rm.locals ≤ R.locals)
    (ho : o ∈ L) (hfo : f o = .inr (ci, fs)) (hc : classes[ci]? = some q) (hq1 : q.1 = y.cls) (hAs : As.length = k) (hst : st = As.reverse ++ .ref o :: rest)
    (hrm : (rest.map fun v => v.category).sum ≤ 8) (hls : ls.size = nL) (hdg : decode cc pc = .ok (.invokevirtual idx, 3)) (hf : cells + mc ≤ R.cells ∧ slots + ms ≤ R.slots) :
    va_Run p l e R s m args below meth c H locs cells slots mc ms (F0 m pc ls st) rest (Qc (Value.ref o :: As).toArray) (hm_A H.size L) := by
  obtain ⟨j, hj⟩ := hl_at ho hfo
  refine va_runV X M ⟨callB_of k X.2.2.2.2 (hq_good hcode) rfl hrc hrs (X.2.2.2.2 _ hini) (X.2.2.2.2 _ hlink) hd hR, X.2.2.2.2 _ hinst, X.2.2.2.2 _ hsel⟩ ⟨hl_blind, ?_, ?_⟩ rfl hAs hls hst (lv_room hrm) hdg hf
  · have := va_recv hK.1 h.1 hc hj
    rw [hq1] at this
    exact this
  · intro U hU hW
    exact ⟨rfl, by rw [hU], by rw [hU]; exact h.1, hK.warm hW, ⟨h.2.1.1, fun _ _ _ => trivial⟩⟩

theorem hl_runS (X : CallFix p m c cc nL s args tg own) (hK : hl_K g s) (h : hl_H g A H0 L f H locs)
    (M : Met l y (hq y b n r) rm (hm_P g As H.size L f) Qc mc ms (hm_A H.size L)) (hcode : Cond.code y b n r ∈ tg)
    (hlink : Cond.methodLink own idx y ∈ tg) (hini : Cond.initialized y.cls ∈ tg) (hinst : Cond.static y ∈ tg)
    (hd : y.cls ≠ "java/lang/invoke/MethodHandle" ∧ y.cls ≠ "java/lang/invoke/VarHandle" ∧ (parseMethodDescriptor y.desc).map (fun d => d.parameters.length) = some k)
    (hrc : rm.cells = mc) (hrs : rm.slots = ms) (hR : rm.frames + 1 ≤ R.frames ∧ 8 + (n + 11) + rm.locals ≤ R.locals)
    (hAs : As.length = k) (hst : st = As.reverse ++ rest)
    (hrm : (rest.map fun v => v.category).sum ≤ 8) (hls : ls.size = nL) (hdg : decode cc pc = .ok (.invokestatic idx, 3)) (hf : cells + mc ≤ R.cells ∧ slots + ms ≤ R.slots) :
    va_Run p l e R s m args below meth c H locs cells slots mc ms (F0 m pc ls st) rest (Qc As.toArray) (hm_A H.size L) := by
  refine va_runS X M ⟨callB_of k X.2.2.2.2 (hq_good hcode) rfl hrc hrs (X.2.2.2.2 _ hini) (X.2.2.2.2 _ hlink) hd hR, X.2.2.2.2 _ hinst⟩ ⟨hl_blind, ?_⟩ rfl hAs hls hst (lv_room hrm) hdg hf
  intro U hU hW
  exact ⟨rfl, by rw [hU], by rw [hU]; exact h.1, hK.warm hW, ⟨h.2.1.1, fun _ _ _ => trivial⟩⟩

/-- a static method of the nest's host -/
theorem hl_runSN {host : String} (X : CallFix p m c cc nL s args tg own) (hK : hl_K g s) (h : hl_H g A H0 L f H locs)
    (M : Met l y (hq y b n r) rm (hm_P g As H.size L f) Qc mc ms (hm_A H.size L)) (hcode : Cond.code y b n r ∈ tg)
    (hlink : va_Nw (.methodLinkNest own idx y host) s) (hini : Cond.initialized y.cls ∈ tg) (hinst : Cond.static y ∈ tg)
    (hd : y.cls ≠ "java/lang/invoke/MethodHandle" ∧ y.cls ≠ "java/lang/invoke/VarHandle" ∧ (parseMethodDescriptor y.desc).map (fun d => d.parameters.length) = some k)
    (hrc : rm.cells = mc) (hrs : rm.slots = ms) (hR : rm.frames + 1 ≤ R.frames ∧ 8 + (n + 11) + rm.locals ≤ R.locals)
    (hAs : As.length = k) (hst : st = As.reverse ++ rest)
    (hrm : (rest.map fun v => v.category).sum ≤ 8) (hls : ls.size = nL) (hdg : decode cc pc = .ok (.invokestatic idx, 3)) (hf : cells + mc ≤ R.cells ∧ slots + ms ≤ R.slots) :
    va_Run p l e R s m args below meth c H locs cells slots mc ms (F0 m pc ls st) rest (Qc As.toArray) (hm_A H.size L) := by
  refine va_runSN X M ⟨va_cnB k X.2.2.2.2 (hq_good hcode) rfl hrc hrs hlink (X.2.2.2.2 _ hini) hd hR, X.2.2.2.2 _ hinst, trivial⟩ ⟨hl_blind, ?_⟩ rfl hAs hls hst (lv_room hrm) hdg hf
  intro U hU hW
  exact ⟨rfl, by rw [hU], by rw [hU]; exact h.1, hK.warm hW, ⟨h.2.1.1, fun _ _ _ => trivial⟩⟩

theorem hl_runI (X : CallFix p m c cc nL s args tg own) (hK : hl_K g s) (h : hl_H g A H0 L f H locs)
    (M : Met l y (hq y b n none) rm (hm_P g (.ref o :: As) H.size L f) Qc mc ms (hm_A H.size L)) (hcode : Cond.code y b n none ∈ tg)
    (hlink : Cond.methodLink own idx y ∈ tg) (hini : Cond.initialized y.cls ∈ tg) (hinst : Cond.instanceMethod y ∈ tg) (hnm : y.name = "<init>")
    (hd : y.cls ≠ "java/lang/invoke/MethodHandle" ∧ y.cls ≠ "java/lang/invoke/VarHandle" ∧ (parseMethodDescriptor y.desc).map (fun d => d.parameters.length) = some k)
    (hrc : rm.cells = mc) (hrs : rm.slots = ms) (hR : rm.frames + 1 ≤ R.frames ∧ 8 + (n + 11) + rm.locals ≤ R.locals)
    (hAs : As.length = k) (hst : st = As.reverse ++ .ref o :: rest)
    (hrm : (rest.map fun v => v.category).sum ≤ 8) (hls : ls.size = nL) (hdg : decode cc pc = .ok (.invokespecial idx, 3)) (hf : cells + mc ≤ R.cells ∧ slots + ms ≤ R.slots) :
    va_Run p l e R s m args below meth c H locs cells slots mc ms (F0 m pc ls st) rest (Qc (Value.ref o :: As).toArray) (hm_A H.size L) := by
  refine va_runI X M ⟨callB_of k X.2.2.2.2 (hq_good hcode) rfl hrc hrs (X.2.2.2.2 _ hini) (X.2.2.2.2 _ hlink) hd hR, hnm, X.2.2.2.2 _ hinst⟩ ⟨hl_blind, ?_⟩ rfl hAs hls hst (lv_room hrm) hdg hf
  intro U hU hW
  exact ⟨rfl, by rw [hU], by rw [hU]; exact h.1, hK.warm hW, ⟨h.2.1.1, fun _ _ _ => trivial⟩⟩

variable {ar : Array Value}

theorem hl_calli {post : Int32 → List Nat × (Nat → va_E) → Prop} (h : hl_H g A H0 L f H locs)
    (hr : va_Run p l e R s m args below meth c H locs cells slots mc ms (F0 m pc ls st) rest (va_Qi post (hm_B g H.size L) (hm_A H.size L) ar) (hm_A H.size L))
    (kk : ∀ (r : Int32) (u : List Nat × (Nat → va_E)) (H1 : Heap) (locs1 : List Loc), post r u → hl_H g A H0 u.1 u.2 H1 locs1 →
      W p l e R s m args below meth c H1 locs1 (cells + mc) (slots + ms) Q (F0 m (pc + 3) ls (.int r :: rest))) :
    W p l e R s m args below meth c H locs cells slots Q (F0 m pc ls st) :=
  va_calli hr h.2.2.1 (fun q _ hq => hl_inA h q hq) (hl_inA h) (fun r u t H1 locs1 ht _ hp hB _ _ hS =>
    kk r u H1 locs1 hp ⟨by rw [← ht]; exact hB.1, ⟨hB.2.1, fun k q hk => hl_inA h _ (hB.2.2 k q hk)⟩, hS, h.2.2.2⟩)

theorem hl_calll {post : Int64 → List Nat × (Nat → va_E) → Prop} (h : hl_H g A H0 L f H locs)
    (hr : va_Run p l e R s m args below meth c H locs cells slots mc ms (F0 m pc ls st) rest (va_Ql post (hm_B g H.size L) (hm_A H.size L) ar) (hm_A H.size L))
    (kk : ∀ (r : Int64) (u : List Nat × (Nat → va_E)) (H1 : Heap) (locs1 : List Loc), post r u → hl_H g A H0 u.1 u.2 H1 locs1 →
      W p l e R s m args below meth c H1 locs1 (cells + mc) (slots + ms) Q (F0 m (pc + 3) ls (.long r :: rest))) :
    W p l e R s m args below meth c H locs cells slots Q (F0 m pc ls st) :=
  va_calll hr h.2.2.1 (fun q _ hq => hl_inA h q hq) (hl_inA h) (fun r u t H1 locs1 ht _ hp hB _ _ hS =>
    kk r u H1 locs1 hp ⟨by rw [← ht]; exact hB.1, ⟨hB.2.1, fun k q hk => hl_inA h _ (hB.2.2 k q hk)⟩, hS, h.2.2.2⟩)

theorem hl_callv {post : List Nat × (Nat → va_E) → Prop} (h : hl_H g A H0 L f H locs)
    (hr : va_Run p l e R s m args below meth c H locs cells slots mc ms (F0 m pc ls st) rest (va_Qv post (hm_B g H.size L) (hm_A H.size L) ar) (hm_A H.size L))
    (kk : ∀ (u : List Nat × (Nat → va_E)) (H1 : Heap) (locs1 : List Loc), post u → hl_H g A H0 u.1 u.2 H1 locs1 →
      W p l e R s m args below meth c H1 locs1 (cells + mc) (slots + ms) Q (F0 m (pc + 3) ls rest)) :
    W p l e R s m args below meth c H locs cells slots Q (F0 m pc ls st) :=
  va_callv hr h.2.2.1 (fun q _ hq => hl_inA h q hq) (hl_inA h) (fun u t H1 locs1 ht _ hp hB _ _ hS =>
    kk u H1 locs1 hp ⟨by rw [← ht]; exact hB.1, ⟨hB.2.1, fun k q hk => hl_inA h _ (hB.2.2 k q hk)⟩, hS, h.2.2.2⟩)

theorem hl_callr {post : List Nat × (Nat → va_E) → Prop} {a0 : Nat} (h : hl_H g A H0 L f H locs)
    (hr : va_Run p l e R s m args below meth c H locs cells slots mc ms (F0 m pc ls st) rest (va_Qr post (fun u b t => b = a0 ∧ hm_B g H.size L u t) (hm_A H.size L) ar) (hm_A H.size L))
    (kk : ∀ (u : List Nat × (Nat → va_E)) (H1 : Heap) (locs1 : List Loc), post u → hl_H g A H0 u.1 u.2 H1 locs1 →
      W p l e R s m args below meth c H1 locs1 (cells + mc) (slots + ms) Q (F0 m (pc + 3) ls (.ref a0 :: rest))) :
    W p l e R s m args below meth c H locs cells slots Q (F0 m pc ls st) :=
  va_callr hr h.2.2.1 (fun q _ hq => hl_inA h q hq) (hl_inA h) (fun u ra t H1 locs1 ht _ hp hB _ _ hS => by
    obtain ⟨rfl, hB⟩ := hB
    exact kk u H1 locs1 hp ⟨by rw [← ht]; exact hB.1, ⟨hB.2.1, fun k q hk => hl_inA h _ (hB.2.2 k q hk)⟩, hS, h.2.2.2⟩)
end

/-! ### boolean rows -/
theorem hl_zald (X : CallFix p m c cc nL s args tg own) (hK : hl_K g s) (h : hl_H g A H0 L f H locs) {n i : Nat} {z : Nat → Int32}
    (ha : a ∈ L) (hfa : f a = hl_zow g n z) (hi : i < n) (hn : n < 2 ^ 31) (hdg : decode cc pc = .ok (.baload, 1))
    (kk : W p l e R s m args below meth c H locs cells slots Q (F0 m (pc + 1) ls (.int (z i) :: rest))) :
    W p l e R s m args below meth c H locs cells slots Q (F0 m pc ls (.int (nI i) :: .ref a :: rest)) := by
  obtain ⟨j, hj⟩ := hl_at ha hfa
  refine va_zald X.1 X.2.1 hK.1 h.1 j 1 hj rfl (vp_in_nI hi hn) hdg ?_
  rw [nI_clamp (by omega)]
  exact kk

theorem hl_zast (X : CallFix p m c cc nL s args tg own) (hK : hl_K g s) (h : hl_H g A H0 L f H locs) {n i : Nat} {z : Nat → Int32} {x : Int32}
    (ha : a ∈ L) (hfa : f a = hl_zow g n z) (hi : i < n) (hn : n < 2 ^ 31) (hx : x = 0 ∨ x = 1) (hdg : decode cc pc = .ok (.bastore, 1))
    (kk : ∀ (H1 : Heap) (locs1 : List Loc), hl_H g A H0 L (va_up f a (hl_zow g n (va_up z i x))) H1 locs1 →
      W p l e R s m args below meth c H1 locs1 cells slots Q (F0 m (pc + 1) ls rest)) :
    W p l e R s m args below meth c H locs cells slots Q (F0 m pc ls (.int x :: .int (nI i) :: .ref a :: rest)) := by
  obtain ⟨j, hj⟩ := hl_at ha hfa
  obtain ⟨hP, hD, hS, hA⟩ := h
  refine va_zast X.1 X.2.1 hK.1 hP hD hS j 1 hj rfl (vp_in_nI hi hn) hdg (fun H1 locs1 hP1 hD1 hS1 => ?_)
  have e : vp_nar .boolean x = x := by rcases hx with rfl | rfl <;> rfl
  rw [hl_set hD ha hfa hj, nI_clamp (by omega), e] at hP1 hD1
  exact kk H1 locs1 ⟨hP1, hD1, hS1, hA⟩

/-! ### System.arraycopy of int rows -/
theorem hl_copy (X : CallFix p m c cc nL s args tg own) (hK : hl_K g s) (h : hl_H g A H0 L f H locs) {index n0 n1 sp dp n b : Nat} {z w : Nat → Int32}
    (hlink : Cond.methodLink own index arraycopyName ∈ tg) (hb : b ∈ L) (hfb : f b = hl_row g n0 z) (ha : a ∈ L) (hfa : f a = hl_row g n1 w)
    (h4 : sp + n ≤ n0) (h5 : dp + n ≤ n1) (hn0 : n0 < 2 ^ 31) (hn1 : n1 < 2 ^ 31) (hls : ls.size = nL)
    (hframes : 1 ≤ R.frames) (hlocals : (rest.map fun v => v.category).sum + (nativeFrameWords "java/lang/System" "arraycopy" 5 + 11) ≤ R.locals) (hdg : decode cc pc = .ok (.invokestatic index, 3))
    (kk : ∀ (H1 : Heap) (locs1 : List Loc), hl_H g A H0 L (va_up f a (hl_row g n1 (va_cpy z w sp dp n))) H1 locs1 →
      W p l e R s m args below meth c H1 locs1 cells slots Q (F0 m (pc + 3) ls rest)) :
    W p l e R s m args below meth c H locs cells slots Q (F0 m pc ls (.int (nI n) :: .int (nI dp) :: .ref a :: .int (nI sp) :: .ref b :: rest)) := by
  obtain ⟨j, hj⟩ := hl_at ha hfa
  obtain ⟨i, hi⟩ := hl_at hb hfb
  obtain ⟨hP, hD, hS, hA⟩ := h
  refine va_copyi X.1 X.2.1 (by rw [X.2.2.1]; exact hls.symm) X.2.2.2.1 (X.2.2.2.2 _ hlink) (X.2.2.2.2 _ (tg_of (by decide +kernel) rfl)) (X.2.2.2.2 _ (tg_of (by decide +kernel) rfl)) (X.2.2.2.2 _ (tg_of (by decide +kernel) rfl)) hK.1 hP hD hS i j 0 0 (ty := .int) hi hj rfl rfl rfl
    (nI_pos (by omega)) (nI_pos (by omega)) (nI_pos (by omega)) (by rw [nI_clamp (by omega), nI_clamp (by omega)]; exact h4) (by rw [nI_clamp (by omega), nI_clamp (by omega)]; exact h5) (fun _ _ => rfl) hframes hlocals hdg (fun H1 locs1 hP1 hD1 hS1 => ?_)
  rw [hl_set hD ha hfa hj, nI_clamp (by omega), nI_clamp (by omega), nI_clamp (by omega)] at hP1 hD1
  exact kk H1 locs1 ⟨hP1, hD1, hS1, hA⟩

end

end
end
section
/-! From claim/NAMES.whole.lean.txt (the row for new T[n][m]), as it stands but for its premise on the outer class. -/
/-! ===== BEGIN new T[n][m]: the outer array a place, the inner ones among the pooled ===== -/
/-- f, but v at every address of l -/
def vr_up {α : Type} (f : Nat → α) (l : List Nat) (v : α) : Nat → α := fun a => if a ∈ l then v else f a
theorem vr_up_in {α : Type} {f : Nat → α} {l : List Nat} {v : α} {a : Nat} (h : a ∈ l) : vr_up f l v a = v := if_pos h
theorem vr_up_ne {α : Type} {f : Nat → α} {l : List Nat} {v : α} {a : Nat} (h : a ∉ l) : vr_up f l v a = f a := if_neg h
theorem vr_rows {L l : List Nat} {f : Nat → va_E} {e : va_E} (h : ∀ a, a ∈ l → a ∉ L) : va_pl L f ++ l.map (fun a => (a, e)) = va_pl (L ++ l) (vr_up f l e) := by
  unfold va_pl
  rw [List.map_append]
  congr 1
  · apply List.map_congr_left
    intro a ha
    rw [vr_up_ne (fun q => h a q ha)]
  · apply List.map_congr_left
    intro a ha
    rw [vr_up_in ha]
theorem vr_lay {X rows : va_W} {x : Nat × va_E} {pl : va_W} {D : va_G} {cl : List vw_C} {H : Heap} (hP : va_P D cl (((X ++ pl) ++ [x]) ++ rows) H) : va_P D cl ((X ++ [x]) ++ (pl ++ rows)) H := by
  rw [List.append_assoc (X ++ pl)] at hP
  have h := va_P.swap hP
  rw [← List.append_assoc X] at h
  have h2 := va_P.swap h
  rw [List.append_assoc (X ++ [x])] at h2
  exact h2
theorem vr_layD {X rows : va_W} {x : Nat × va_E} {pl : va_W} {A : Nat → Prop} (hD : va_D A (((X ++ pl) ++ [x]) ++ rows)) : va_D A ((X ++ [x]) ++ (pl ++ rows)) := by
  rw [List.append_assoc (X ++ pl)] at hD
  have h := va_D.swap hD
  rw [← List.append_assoc X] at h
  have h2 := va_D.swap h
  rw [List.append_assoc (X ++ [x])] at h2
  exact h2
theorem vr_outer (c : ClassId) (N h0 : Nat) : ∀ i : Nat, Jvm.Free.Multi.outerC c N h0 i = arrV c N (fun j => va_rf (if j < i then some (h0 + 1 + j) else none))
  | 0 => by
    show ({ cls := c, slots := Array.replicate N .null, vm := .none } : Cell) = _
    rw [arrV_new]
    refine congrArg (arrV c N) (funext fun j => ?_)
    simp [va_rf]
  | i + 1 => by
    show (Jvm.Free.Multi.outerC c N h0 i).setSlot i (.ref (h0 + 1 + i)) = _
    rw [vr_outer c N h0 i, arrV_store]
    refine congrArg (arrV c N) (funext fun j => ?_)
    by_cases e : j = i
    · subst e
      simp [updV, va_rf]
    · by_cases h : j < i
      · simp [updV, e, h, Nat.lt_succ_of_lt h]
      · simp [updV, e, h, show ¬ j < i + 1 by omega]
section VGM
variable {p : Program} {l : Launch} {e : Env} {R : Room} {s : State} {m : MethodId} {args : Array Value} {below : List Frame} {meth : Method} {c : Code} {H : Heap} {locs : List Loc} {cells slots : Nat} {Q : State → Prop}
variable {cc : ByteArray} {pc : Nat} {ls : Array Slot} {rest : List Value} {D : va_G} {cl : List vw_C} {A : Nat → Prop} {a : Nat} {tys : List (ClassId × FieldType)} {ws : va_W} {H0 : Heap}
theorem va_mna {X : va_W} {L : List Nat} {f : Nat → va_E} {cc : ByteArray} (hexec : p.tables.exec = Jvm.exec) (hb : c.code = cc) {own : String} {index : Nat} {ty : FieldType} {cy : ClassId} (hown : s.vm.findClass own = some m.cls) (hclink : (Cond.classLink own index ("[" ++ (FieldType.array ty).toString)).before args s = true) (hover : (Cond.arrayOver (.array ty)).before args s = true) (harr : (Cond.arrayClass ty).before args s = true) (hcy : s.vm.findClass (FieldType.array ty).toString = some cy)
    (hK : va_K D cl tys s) (hP : va_P D cl (X ++ va_pl L f) H) (hD : va_D A (X ++ va_pl L f)) (hS : va_S A H0 H locs) (hA : ∀ q, H0.size ≤ q → A q) {n k : Int32} {N' K' : Nat} {z : vp_A} (hn : ¬ n < 0) (hk : ¬ k < 0) (hN : n.toNatClampNeg = N') (hM : k.toNatClampNeg = K')
    (hb1 : N' * 4 ≤ 536870912) (hb2 : K' * componentBytes ty ≤ 536870912) (hb3 : K' ≤ 536870912) (hdf : fits ty (defaultValue ty) = true) (hdd : (defaultValue ty).isDefault = true) (hcells : cells + (1 + N') ≤ R.cells) (hslots : slots + (N' + N' * K') ≤ R.slots) (hz : ∀ c : ClassId, Jvm.Free.Multi.innerC c K' (defaultValue ty) = vp_cell c z) (hdg : decode cc pc = .ok (.multianewarray index 2, 4))
    (kk : ∀ (q : Nat) (r : Nat → Nat) (cA : ClassId) (H1 : Heap), (∀ i j : Nat, i < N' → j < N' → r i = r j → i = j) → (∀ i : Nat, i < N' → r i ∉ L) → va_K D cl (tys ++ [(cA, .array ty)]) s →
      va_P D cl ((X ++ [(q, .inl (cA, N', .inr (.inr (.inr (.inr (fun i => if i < N' then some (r i) else none))))))]) ++ va_pl (L ++ (List.range N').map r) (vr_up f ((List.range N').map r) (.inl (cy, z)))) H1 → va_D A ((X ++ [(q, .inl (cA, N', .inr (.inr (.inr (.inr (fun i => if i < N' then some (r i) else none))))))]) ++ va_pl (L ++ (List.range N').map r) (vr_up f ((List.range N').map r) (.inl (cy, z)))) → va_S A H0 H1 locs →
      W p l e R s m args below meth c H1 locs (cells + 1 + N') (slots + N' + N' * K') Q (F0 m (pc + 4) ls (.ref q :: rest))) : W p l e R s m args below meth c H locs cells slots Q (F0 m pc ls (.int k :: .int n :: rest)) := by
  subst hN
  subst hM
  intro T hT Xs
  obtain ⟨vm₁, cA, comp, -, fA, fC, hO, -, X', step⟩ := Xs.multianewarray2F hexec hown hclink hover harr (g := F0 m pc ls (.int k :: .int n :: rest)) rfl (by rw [hb]; exact hdg) rfl hn hk hb1 hb2 hb3 hdf hdd hcells hslots
  have ec : some cy = some comp := hcy.symm.trans fC
  cases ec
  generalize hF : Jvm.Free.Multi.fill (T.setVm vm₁) cA cy n.toNatClampNeg k.toNatClampNeg (defaultValue ty) n.toNatClampNeg = F at X' step
  have hTh : (T.setVm vm₁).heap = H := hT
  obtain ⟨f1, f2, -, -⟩ := Jvm.Free.Multi.fill_facts (T.setVm vm₁) cA cy n.toNatClampNeg k.toNatClampNeg (defaultValue ty) n.toNatClampNeg
  rw [hF, hTh] at f1 f2
  have hold : ∀ x : Nat, x < H.size → F.heap[x]? = H[x]? := fun x hx => by
    have := Jvm.Free.Multi.fill_old (T.setVm vm₁) cA cy n.toNatClampNeg k.toNatClampNeg (defaultValue ty) (a := x) (by rw [hTh]; exact hx) n.toNatClampNeg
    rw [hF, hTh] at this
    exact this
  have hrow : ∀ j : Nat, j < n.toNatClampNeg → F.heap[H.size + 1 + j]? = some (vp_cell cy z) := fun j hj => by
    have := Jvm.Free.Multi.fill_inner (T.setVm vm₁) cA cy n.toNatClampNeg k.toNatClampNeg (defaultValue ty) n.toNatClampNeg j hj
    rw [hF, hTh, hz] at this
    exact this
  have hout : Jvm.Free.Multi.outerC cA n.toNatClampNeg H.size n.toNatClampNeg = vp_cell cA (n.toNatClampNeg, .inr (.inr (.inr (.inr (fun i => if i < n.toNatClampNeg then some (H.size + 1 + i) else none))))) := by
    rw [vp_cell_q]
    exact vr_outer cA n.toNatClampNeg H.size n.toNatClampNeg
  rw [hout] at f2
  have hlt : ∀ a, a ∈ L → a < H.size := fun a ha => by
    obtain ⟨k9, hk9⟩ := va_pl_get (X := X) (f := f) ha
    exact (hP k9 _ hk9).lt
  have hnl : ∀ i : Nat, i < n.toNatClampNeg → H.size + 1 + i ∉ L := fun i _ h => by
    have := hlt _ h
    omega
  have hnm : ∀ a, a ∈ (List.range n.toNatClampNeg).map (fun i => H.size + 1 + i) → a ∉ L := fun a ha h => by
    obtain ⟨i, -, rfl⟩ := List.mem_map.mp ha
    have := hlt _ h
    omega
  have hP0 : va_P D cl (X ++ va_pl L f) F.heap := hP.kept (fun k9 x hx => hold x.1 ((hP k9 x hx).lt))
  have hP1 : va_P D cl ((X ++ va_pl L f) ++ [(H.size, .inl (cA, n.toNatClampNeg, .inr (.inr (.inr (.inr (fun i => if i < n.toNatClampNeg then some (H.size + 1 + i) else none))))))]) F.heap := hP0.app (fun k9 x hx => by
    have h0 : k9 < 1 := (List.getElem?_eq_some_iff.mp hx).1
    rw [show k9 = 0 by omega] at hx
    cases hx
    exact f2)
  have hP2 : va_P D cl (((X ++ va_pl L f) ++ [(H.size, .inl (cA, n.toNatClampNeg, .inr (.inr (.inr (.inr (fun i => if i < n.toNatClampNeg then some (H.size + 1 + i) else none))))))]) ++ ((List.range n.toNatClampNeg).map (fun i => H.size + 1 + i)).map (fun a => (a, .inl (cy, z)))) F.heap := hP1.app (fun k9 x hx => by
    obtain ⟨a, ha, rfl⟩ := List.mem_map.mp (List.mem_of_getElem? hx)
    obtain ⟨i, hi, rfl⟩ := List.mem_map.mp ha
    exact hrow i (List.mem_range.mp hi))
  have hD2 : va_D A (((X ++ va_pl L f) ++ [(H.size, .inl (cA, n.toNatClampNeg, .inr (.inr (.inr (.inr (fun i => if i < n.toNatClampNeg then some (H.size + 1 + i) else none))))))]) ++ ((List.range n.toNatClampNeg).map (fun i => H.size + 1 + i)).map (fun a => (a, .inl (cy, z)))) := by
    have hD1 := hD.push (e := .inl (cA, n.toNatClampNeg, .inr (.inr (.inr (.inr (fun i => if i < n.toNatClampNeg then some (H.size + 1 + i) else none)))))) hP rfl (hA _ hS.1)
    generalize hW1 : (X ++ va_pl L f) ++ [(H.size, .inl (cA, n.toNatClampNeg, .inr (.inr (.inr (.inr (fun i => if i < n.toNatClampNeg then some (H.size + 1 + i) else none))))))] = W1 at hD1 hP1 ⊢
    have hle : ∀ (k9 : Nat) (x : Nat × va_E), W1[k9]? = some x → x.1 ≤ H.size := fun k9 x hx => by
      rw [← hW1] at hx
      by_cases hl : k9 < (X ++ va_pl L f).length
      · rw [List.getElem?_append_left hl] at hx
        exact Nat.le_of_lt ((hP k9 x hx).lt)
      · rw [List.getElem?_append_right (by omega)] at hx
        have h0 : k9 - (X ++ va_pl L f).length < 1 := (List.getElem?_eq_some_iff.mp hx).1
        rw [show k9 - (X ++ va_pl L f).length = 0 by omega] at hx
        cases hx
        exact Nat.le_refl _
    have hr : ∀ (k9 : Nat) (x : Nat × va_E), (((List.range n.toNatClampNeg).map (fun i => H.size + 1 + i)).map (fun a => ((a, .inl (cy, z)) : Nat × va_E)))[k9]? = some x → x.1 = H.size + 1 + k9 := fun k9 x hx => by
      rw [List.getElem?_map, List.getElem?_map] at hx
      by_cases h9 : k9 < n.toNatClampNeg
      · rw [List.getElem?_range h9] at hx
        cases hx
        rfl
      · have hn0 : (List.range n.toNatClampNeg)[k9]? = none := List.getElem?_eq_none (by rw [List.length_range]; omega)
        rw [hn0] at hx
        cases hx
    refine ⟨fun i j x y hi hj hxy => ?_, fun k9 x hx => ?_⟩
    · by_cases h1 : i < W1.length <;> by_cases h2 : j < W1.length
      · rw [List.getElem?_append_left h1] at hi
        rw [List.getElem?_append_left h2] at hj
        exact hD1.1 i j x y hi hj hxy
      · rw [List.getElem?_append_left h1] at hi
        rw [List.getElem?_append_right (by omega)] at hj
        have := hle _ _ hi
        have := hr _ _ hj
        omega
      · rw [List.getElem?_append_right (by omega)] at hi
        rw [List.getElem?_append_left h2] at hj
        have := hle _ _ hj
        have := hr _ _ hi
        omega
      · rw [List.getElem?_append_right (by omega)] at hi hj
        have := hr _ _ hi
        have := hr _ _ hj
        omega
    · by_cases h1 : k9 < W1.length
      · rw [List.getElem?_append_left h1] at hx
        exact hD1.2 k9 x hx
      · rw [List.getElem?_append_right (by omega)] at hx
        have := hr _ _ hx
        exact hA _ (by have := hS.1; omega)
  have hAr : ArrOfT s cA (.array ty) := fun N9 z9 => by
    obtain ⟨-, k9, hk9, cm9, hkk9⟩ := (hO 0 0 0).1
    exact ⟨(fun q hq => by cases hq), k9, hk9, cm9, hkk9⟩
  have hK2 : va_K D cl (tys ++ [(cA, .array ty)]) s := ⟨hK.1, fun k9 x hx => by
    by_cases hl : k9 < tys.length
    · rw [List.getElem?_append_left hl] at hx
      exact hK.2 k9 x hx
    · rw [List.getElem?_append_right (by omega)] at hx
      have h0 : k9 - tys.length < 1 := (List.getElem?_eq_some_iff.mp hx).1
      rw [show k9 - tys.length = 0 by omega] at hx
      cases hx
      exact ⟨hAr, fA⟩⟩
  obtain ⟨t, a1, b1⟩ := kk H.size (fun i => H.size + 1 + i) cA F.heap (fun i j _ _ h => by have h9 : H.size + 1 + i = H.size + 1 + j := h; omega) hnl hK2 (by rw [← vr_rows hnm]; exact vr_lay hP2) (by rw [← vr_rows hnm]; exact vr_layD hD2) ⟨by rw [f1]; have := hS.1; omega, fun x h1 h2 => (hold x (Nat.lt_of_lt_of_le h1 hS.1)).trans (hS.2.1 x h1 h2), hS.2.2⟩ F rfl X'
  refine ⟨t, step t ?_, b1⟩
  have e : T.heap.size = H.size := by rw [hT]
  rw [e]
  exact a1
end VGM
end
section
/-! The layer: new cells; whole numbers that aren't negative. -/
section
variable {p : Program} {l : Launch} {e : Env} {R : Room} {s : State} {m : MethodId} {args : Array Value} {below : List Frame} {meth : Method} {c : Code} {H : Heap} {locs : List Loc} {cells slots : Nat} {Q : State → Prop}
variable {cc : ByteArray} {pc nL : Nat} {ls : Array Slot} {rest st : List Value} {g : hl_G} {A : Nat → Prop} {a : Nat} {H0 : Heap} {own : String} {L : List Nat} {f : Nat → va_E}

theorem hl_new (X : CallFix p m c cc nL s args tg own) (hK : hl_K g s) (h : hl_H g A H0 L f H locs) {C0 : String} {T : u_T} {N ci index : Nat}
    (hin : ∀ w ∈ u_ws C0 T N, w ∈ tg) (ty : Nat → FieldType) (hty : ∀ k, k < N → parseFieldDescriptor (T k).2.2.1 = some (ty k)) (hcl : Cond.classLink own index C0 ∈ tg)
    (hinst : Cond.instantiable C0 N ∈ tg) (hini : Cond.initialized C0 ∈ tg) (hc : classes[ci]? = some (C0, T, N)) {fs : List Value} (hfs : ∀ j, j < N → defaultValue (ty j) = vp_V fs j)
    (hcells : cells + 1 ≤ R.cells) (hslots : slots + N ≤ R.slots) (hdg : decode cc pc = .ok (.new index, 3))
    (kk : ∀ (q : Nat) (H1 : Heap), q ∉ L → hl_H g A H0 (L ++ [q]) (va_up f q (.inr (ci, fs))) H1 locs →
      W p l e R s m args below meth c H1 locs (cells + 1) (slots + N) Q (F0 m (pc + 3) ls (.ref q :: rest))) :
    W p l e R s m args below meth c H locs cells slots Q (F0 m pc ls rest) := by
  obtain ⟨hP, hD, hS, hA⟩ := h
  refine va_new (ci := ci) (fs := fs) X.1 X.2.1 X.2.2.2.2 hin ty hty X.2.2.2.1 (X.2.2.2.2 _ hcl) (X.2.2.2.2 _ hinst) (X.2.2.2.2 _ hini) hK.1 hP hD hS hA hc hfs hcells hslots hdg (fun q H1 hP1 hD1 hS1 => ?_)
  obtain ⟨hq, e1⟩ := hl_push hD1
  rw [e1] at hP1 hD1
  exact kk q H1 hq ⟨hP1, hD1, hS1, hA⟩

theorem hl_newI (X : CallFix p m c cc nL s args tg own) (hK : hl_K g s) (h : hl_H g A H0 L f H locs) {n : Nat} (hn : n < 2 ^ 20)
    (hcells : cells + 1 ≤ R.cells) (hslots : slots + n ≤ R.slots) (hdg : decode cc pc = .ok (.newarray .int, 2))
    (kk : ∀ (q : Nat) (H1 : Heap), q ∉ L → hl_H g A H0 (L ++ [q]) (va_up f q (hl_row g n (fun _ => 0))) H1 locs →
      W p l e R s m args below meth c H1 locs (cells + 1) (slots + n) Q (F0 m (pc + 2) ls (.ref q :: rest))) :
    W p l e R s m args below meth c H locs cells slots Q (F0 m pc ls (.int (nI n) :: rest)) := by
  obtain ⟨hP, hD, hS, hA⟩ := h
  refine va_newa (atype := .int) (ty := .int) (n := nI n) (N' := n) (a0 := (n, .inl (fun _ => 0))) X.1 X.2.1 (X.2.2.2.2 (.arrayClass .int) (tg_of (by decide +kernel) rfl)) rfl hK.1 hP hD hS hA (fun cA => vp_cell_i cA n _) (nI_pos (by omega)) (nI_clamp (by omega)) (Nat.le_trans (Nat.mul_le_mul_right 4 (Nat.le_of_lt hn)) (by decide)) hcells hslots hdg (fun q cA H1 hK1 hP1 hD1 hS1 => ?_)
  have ec : cA = g.2.1 := by
    have h1 := (hK1.2 4 _ rfl).2
    have h2 := (hK.1.2 0 _ rfl).2
    exact Option.some.inj (h1.symm.trans h2)
  subst ec
  obtain ⟨hq, e1⟩ := hl_push hD1
  rw [e1] at hP1 hD1
  exact kk q H1 hq ⟨hP1, hD1, hS1, hA⟩

theorem hl_newZ (X : CallFix p m c cc nL s args tg own) (hK : hl_K g s) (h : hl_H g A H0 L f H locs) {n : Nat} (hn : n < 2 ^ 20)
    (hcells : cells + 1 ≤ R.cells) (hslots : slots + n ≤ R.slots) (hdg : decode cc pc = .ok (.newarray .boolean, 2))
    (kk : ∀ (q : Nat) (H1 : Heap), q ∉ L → hl_H g A H0 (L ++ [q]) (va_up f q (hl_zow g n (fun _ => 0))) H1 locs →
      W p l e R s m args below meth c H1 locs (cells + 1) (slots + n) Q (F0 m (pc + 2) ls (.ref q :: rest))) :
    W p l e R s m args below meth c H locs cells slots Q (F0 m pc ls (.int (nI n) :: rest)) := by
  obtain ⟨hP, hD, hS, hA⟩ := h
  refine va_newa (atype := .boolean) (ty := .boolean) (n := nI n) (N' := n) (a0 := (n, .inl (fun _ => 0))) X.1 X.2.1 (X.2.2.2.2 (.arrayClass .boolean) (tg_of (by decide +kernel) rfl)) rfl hK.1 hP hD hS hA (fun cA => vp_cell_i cA n _) (nI_pos (by omega)) (nI_clamp (by omega)) (Nat.le_trans (Nat.mul_le_mul_right 1 (Nat.le_of_lt hn)) (by decide)) hcells hslots hdg (fun q cA H1 hK1 hP1 hD1 hS1 => ?_)
  have ec : cA = g.2.2.1 := by
    have h1 := (hK1.2 4 _ rfl).2
    have h2 := (hK.1.2 1 _ rfl).2
    exact Option.some.inj (h1.symm.trans h2)
  subst ec
  obtain ⟨hq, e1⟩ := hl_push hD1
  rw [e1] at hP1 hD1
  exact kk q H1 hq ⟨hP1, hD1, hS1, hA⟩

theorem hl_newL (X : CallFix p m c cc nL s args tg own) (hK : hl_K g s) (h : hl_H g A H0 L f H locs) {n index : Nat} (hn : n < 2 ^ 20)
    (hcl : Cond.classLink own index R_K ∈ tg) (hcells : cells + 1 ≤ R.cells) (hslots : slots + n ≤ R.slots) (hdg : decode cc pc = .ok (.anewarray index, 3))
    (kk : ∀ (q : Nat) (H1 : Heap), q ∉ L → hl_H g A H0 (L ++ [q]) (va_up f q (hl_lks g n (fun _ => none))) H1 locs →
      W p l e R s m args below meth c H1 locs (cells + 1) (slots + n) Q (F0 m (pc + 3) ls (.ref q :: rest))) :
    W p l e R s m args below meth c H locs cells slots Q (F0 m pc ls (.int (nI n) :: rest)) := by
  obtain ⟨hP, hD, hS, hA⟩ := h
  refine va_newq X.1 X.2.1 X.2.2.2.1 (X.2.2.2.2 _ hcl) hK.2.1 hK.1 hP hD hS hA (nI_pos (by omega)) (nI_clamp (by omega)) (by omega) hcells hslots hdg (fun q cA H1 hK1 hP1 hD1 hS1 => ?_)
  have ec : cA = g.2.2.2.2 := by
    obtain ⟨_, _, _, _, _, h1⟩ := (hK1.2 4 _ rfl).2
    obtain ⟨_, _, _, _, _, h2⟩ := (hK.1.2 3 _ rfl).2
    exact Option.some.inj (h1.symm.trans h2)
  subst ec
  obtain ⟨hq, e1⟩ := hl_push hD1
  rw [e1] at hP1 hD1
  exact kk q H1 hq ⟨hP1, hD1, hS1, hA⟩

theorem hl_aastL (X : CallFix p m c cc nL s args tg own) (hK : hl_K g s) (h : hl_H g A H0 L f H locs) {n i v : Nat} {z : Nat → Option Nat} {vs : List Value}
    (ha : a ∈ L) (hfa : f a = hl_lks g n z) (hv : v ∈ L) (hfv : f v = .inr (3, vs)) (hi : i < n) (hn : n < 2 ^ 31) (hdg : decode cc pc = .ok (.aastore, 1))
    (kk : ∀ (H1 : Heap) (locs1 : List Loc), hl_H g A H0 L (va_up f a (hl_lks g n (va_up z i (some v)))) H1 locs1 →
      W p l e R s m args below meth c H1 locs1 cells slots Q (F0 m (pc + 1) ls rest)) :
    W p l e R s m args below meth c H locs cells slots Q (F0 m pc ls (.ref v :: .int (nI i) :: .ref a :: rest)) := by
  obtain ⟨j, hj⟩ := hl_at ha hfa
  obtain ⟨j2, hj2⟩ := hl_at hv hfv
  obtain ⟨hP, hD, hS, hA⟩ := h
  refine va_astq (r := (R_K, F_K, 7)) X.1 X.2.1 hK.1 hP hD hS j 3 j2 3 hj rfl hj2 rfl (vp_in_nI hi hn) hdg (fun H1 locs1 hP1 hD1 hS1 => ?_)
  rw [hl_set hD ha hfa hj, nI_clamp (by omega)] at hP1 hD1
  exact kk H1 locs1 ⟨hP1, hD1, hS1, hA⟩

/-- new int[n][k]: the outer row last, the inner ones before it -/
theorem hl_mna (X : CallFix p m c cc nL s args tg own) (hK : hl_K g s) (h : hl_H g A H0 L f H locs) {n k index : Nat} (hn : n < 2 ^ 10) (hk : k < 2 ^ 10)
    (hcl : Cond.classLink own index "[[I" ∈ tg) (hcells : cells + (1 + n) ≤ R.cells) (hslots : slots + (n + n * k) ≤ R.slots) (hdg : decode cc pc = .ok (.multianewarray index 2, 4))
    (kk : ∀ (q : Nat) (r : Nat → Nat) (H1 : Heap), (∀ i j : Nat, i < n → j < n → r i = r j → i = j) → (∀ i : Nat, i < n → r i ∉ L) → q ∉ L ++ (List.range n).map r →
      hl_H g A H0 ((L ++ (List.range n).map r) ++ [q]) (va_up (vr_up f ((List.range n).map r) (hl_row g k (fun _ => 0))) q (hl_grd g n (fun i => if i < n then some (r i) else none))) H1 locs →
      W p l e R s m args below meth c H1 locs (cells + 1 + n) (slots + n + n * k) Q (F0 m (pc + 4) ls (.ref q :: rest))) :
    W p l e R s m args below meth c H locs cells slots Q (F0 m pc ls (.int (nI k) :: .int (nI n) :: rest)) := by
  obtain ⟨hP, hD, hS, hA⟩ := h
  have hcy : s.vm.findClass (FieldType.array .int).toString = some g.2.1 := by
    have h2 := (hK.1.2 0 _ rfl).2
    exact h2
  refine va_mna (X := []) (ty := .int) (cy := g.2.1) (z := (k, .inl (fun _ => 0))) X.1 X.2.1 X.2.2.2.1 (X.2.2.2.2 (.classLink own index "[[I") hcl) hK.2.2.1 (X.2.2.2.2 (.arrayClass .int) (tg_of (by decide +kernel) rfl)) hcy hK.1 hP hD hS hA
    (nI_pos (by omega)) (nI_pos (by omega)) (nI_clamp (by omega)) (nI_clamp (by omega)) (by omega) (by show k * 4 ≤ 536870912; omega) (by omega) rfl rfl hcells hslots ?_ hdg (fun q r cA H1 h1 h2 hK1 hP1 hD1 hS1 => ?_)
  · intro c0
    show ({ cls := c0, slots := Array.replicate k (defaultValue .int), vm := .none } : Cell) = arrV c0 k (fun _ => .int 0)
    rw [← arrV_new]
    rfl
  · have ec : cA = g.2.2.2.1 := by
      have h3 := (hK1.2 4 _ rfl).2
      have h4 := (hK.1.2 2 _ rfl).2
      exact Option.some.inj (h3.symm.trans h4)
    subst ec
    have hP2 := va_P.swap hP1
    have hD2 := va_D.swap hD1
    rw [List.nil_append] at hP2 hD2
    obtain ⟨hq, e1⟩ := hl_push hD2
    rw [e1] at hP2 hD2
    exact kk q r H1 h1 h2 hq ⟨hP2, hD2, hS1, hA⟩

end
end
section
/-! The layer: whole numbers that aren't negative, as Nat. -/
section
variable {p : Program} {l : Launch} {e : Env} {R : Room} {s : State} {m : MethodId} {args : Array Value} {below : List Frame} {meth : Method} {c : Code} {H : Heap} {locs : List Loc} {cells slots : Nat} {Q : State → Prop}
variable {cc : ByteArray} {pc nL : Nat} {ls : Array Slot} {rest : List Value} {own : String} {x y : Nat}

theorem hn_add (X : CallFix p m c cc nL s args tg own) (hdg : decode cc pc = .ok (.iadd, 1))
    (k : W p l e R s m args below meth c H locs cells slots Q (F0 m (pc + 1) ls (.int (nI (x + y)) :: rest))) : W p l e R s m args below meth c H locs cells slots Q (F0 m pc ls (.int (nI y) :: .int (nI x) :: rest)) :=
  lv_iadd X.1 X.2.1 hdg (by rw [nI_add]; exact k)
theorem hn_sub (X : CallFix p m c cc nL s args tg own) (h : y ≤ x) (hdg : decode cc pc = .ok (.isub, 1))
    (k : W p l e R s m args below meth c H locs cells slots Q (F0 m (pc + 1) ls (.int (nI (x - y)) :: rest))) : W p l e R s m args below meth c H locs cells slots Q (F0 m pc ls (.int (nI y) :: .int (nI x) :: rest)) :=
  lv_isub X.1 X.2.1 hdg (by rw [pk_sub h]; exact k)
theorem hn_mul (X : CallFix p m c cc nL s args tg own) (hdg : decode cc pc = .ok (.imul, 1))
    (k : W p l e R s m args below meth c H locs cells slots Q (F0 m (pc + 1) ls (.int (nI (x * y)) :: rest))) : W p l e R s m args below meth c H locs cells slots Q (F0 m pc ls (.int (nI y) :: .int (nI x) :: rest)) :=
  lv_imul X.1 X.2.1 hdg (by rw [pk_mul]; exact k)
theorem hn_div (X : CallFix p m c cc nL s args tg own) (hx : x < 2 ^ 31) (h0 : 0 < y) (hy : y < 2 ^ 31) (hdg : decode cc pc = .ok (.idiv, 1))
    (k : W p l e R s m args below meth c H locs cells slots Q (F0 m (pc + 1) ls (.int (nI (x / y)) :: rest))) : W p l e R s m args below meth c H locs cells slots Q (F0 m pc ls (.int (nI y) :: .int (nI x) :: rest)) :=
  lv_idiv X.1 X.2.1 hdg (nI_ne0 h0 hy) (by rw [pk_div hx h0 hy]; exact k)
theorem hn_rem (X : CallFix p m c cc nL s args tg own) (hx : x < 2 ^ 31) (h0 : 0 < y) (hy : y < 2 ^ 31) (hdg : decode cc pc = .ok (.irem, 1))
    (k : W p l e R s m args below meth c H locs cells slots Q (F0 m (pc + 1) ls (.int (nI (x % y)) :: rest))) : W p l e R s m args below meth c H locs cells slots Q (F0 m pc ls (.int (nI y) :: .int (nI x) :: rest)) :=
  lv_irem X.1 X.2.1 hdg (nI_ne0 h0 hy) (by rw [pk_rem hx h0 hy]; exact k)

theorem hn_ieq {off : Int} {tgt : Nat} (X : CallFix p m c cc nL s args tg own) (hx : x < 2 ^ 31) (hy : y < 2 ^ 31) (hdg : decode cc pc = .ok (.if_icmp .eq off, 3)) (ht : (pc : Int) + off = (tgt : Int))
    (kt : x = y → W p l e R s m args below meth c H locs cells slots Q (F0 m tgt ls rest)) (kf : ¬ x = y → W p l e R s m args below meth c H locs cells slots Q (F0 m (pc + 3) ls rest)) : W p l e R s m args below meth c H locs cells slots Q (F0 m pc ls (.int (nI y) :: .int (nI x) :: rest)) :=
  lv_icmp_eq X.1 X.2.1 hdg ht (fun h => kt ((nI_eq hx hy).1 h)) (fun h => kf (fun e => h ((nI_eq hx hy).2 e)))
theorem hn_ine {off : Int} {tgt : Nat} (X : CallFix p m c cc nL s args tg own) (hx : x < 2 ^ 31) (hy : y < 2 ^ 31) (hdg : decode cc pc = .ok (.if_icmp .ne off, 3)) (ht : (pc : Int) + off = (tgt : Int))
    (kt : ¬ x = y → W p l e R s m args below meth c H locs cells slots Q (F0 m tgt ls rest)) (kf : x = y → W p l e R s m args below meth c H locs cells slots Q (F0 m (pc + 3) ls rest)) : W p l e R s m args below meth c H locs cells slots Q (F0 m pc ls (.int (nI y) :: .int (nI x) :: rest)) :=
  lv_icmp_ne X.1 X.2.1 hdg ht (fun h => kt (fun e => h ((nI_eq hx hy).2 e))) (fun h => kf ((nI_eq hx hy).1 h))
theorem hn_ilt {off : Int} {tgt : Nat} (X : CallFix p m c cc nL s args tg own) (hx : x < 2 ^ 31) (hy : y < 2 ^ 31) (hdg : decode cc pc = .ok (.if_icmp .lt off, 3)) (ht : (pc : Int) + off = (tgt : Int))
    (kt : x < y → W p l e R s m args below meth c H locs cells slots Q (F0 m tgt ls rest)) (kf : y ≤ x → W p l e R s m args below meth c H locs cells slots Q (F0 m (pc + 3) ls rest)) : W p l e R s m args below meth c H locs cells slots Q (F0 m pc ls (.int (nI y) :: .int (nI x) :: rest)) :=
  lv_icmp_lt X.1 X.2.1 hdg ht (fun h => kt ((nI_ltI hx hy).1 h)) (fun h => kf (Nat.not_lt.1 fun e => h ((nI_ltI hx hy).2 e)))
theorem hn_ige {off : Int} {tgt : Nat} (X : CallFix p m c cc nL s args tg own) (hx : x < 2 ^ 31) (hy : y < 2 ^ 31) (hdg : decode cc pc = .ok (.if_icmp .ge off, 3)) (ht : (pc : Int) + off = (tgt : Int))
    (kt : y ≤ x → W p l e R s m args below meth c H locs cells slots Q (F0 m tgt ls rest)) (kf : x < y → W p l e R s m args below meth c H locs cells slots Q (F0 m (pc + 3) ls rest)) : W p l e R s m args below meth c H locs cells slots Q (F0 m pc ls (.int (nI y) :: .int (nI x) :: rest)) :=
  lv_icmp_ge X.1 X.2.1 hdg ht (fun h => kt ((nI_leI hy hx).1 h)) (fun h => kf (Nat.not_le.1 fun e => h ((nI_leI hy hx).2 e)))
theorem hn_igt {off : Int} {tgt : Nat} (X : CallFix p m c cc nL s args tg own) (hx : x < 2 ^ 31) (hy : y < 2 ^ 31) (hdg : decode cc pc = .ok (.if_icmp .gt off, 3)) (ht : (pc : Int) + off = (tgt : Int))
    (kt : y < x → W p l e R s m args below meth c H locs cells slots Q (F0 m tgt ls rest)) (kf : x ≤ y → W p l e R s m args below meth c H locs cells slots Q (F0 m (pc + 3) ls rest)) : W p l e R s m args below meth c H locs cells slots Q (F0 m pc ls (.int (nI y) :: .int (nI x) :: rest)) :=
  lv_icmp_gt X.1 X.2.1 hdg ht (fun h => kt ((nI_ltI hy hx).1 h)) (fun h => kf (Nat.not_lt.1 fun e => h ((nI_ltI hy hx).2 e)))
theorem hn_ile {off : Int} {tgt : Nat} (X : CallFix p m c cc nL s args tg own) (hx : x < 2 ^ 31) (hy : y < 2 ^ 31) (hdg : decode cc pc = .ok (.if_icmp .le off, 3)) (ht : (pc : Int) + off = (tgt : Int))
    (kt : x ≤ y → W p l e R s m args below meth c H locs cells slots Q (F0 m tgt ls rest)) (kf : y < x → W p l e R s m args below meth c H locs cells slots Q (F0 m (pc + 3) ls rest)) : W p l e R s m args below meth c H locs cells slots Q (F0 m pc ls (.int (nI y) :: .int (nI x) :: rest)) :=
  lv_icmp_le X.1 X.2.1 hdg ht (fun h => kt ((nI_leI hx hy).1 h)) (fun h => kf (Nat.not_le.1 fun e => h ((nI_leI hx hy).2 e)))
end
end
section
/-! The layer: rows of numbers as Nat; a row's contents beyond its length don't matter. -/
section

/-- an int row that holds numbers that aren't negative -/
abbrev hl_nat (g : hl_G) (n : Nat) (z : Nat → Nat) : va_E := hl_row g n (fun p => nI (z p))

theorem hr_up (z : Nat → Nat) (i v : Nat) : va_up (fun p => nI (z p)) i (nI v) = fun p => nI (va_up z i v p) := by
  funext p
  by_cases h : p = i
  · rw [h, va_up_self, va_up_self]
  · rw [va_up_ne _ _ h, va_up_ne _ _ h]

theorem hr_uu {α : Type} (f : Nat → α) (k : Nat) (v w : α) : va_up (va_up f k v) k w = va_up f k w := by
  funext j
  by_cases h : j = k
  · rw [h, va_up_self, va_up_self]
  · rw [va_up_ne _ _ h, va_up_ne _ _ h, va_up_ne _ _ h]

theorem hr_id {α : Type} (f : Nat → α) (k : Nat) : va_up f k (f k) = f := by
  funext j
  by_cases h : j = k
  · rw [h, va_up_self]
  · rw [va_up_ne _ _ h]

theorem hr_comm {α : Type} (f : Nat → α) {k j : Nat} (v w : α) (h : k ≠ j) : va_up (va_up f k v) j w = va_up (va_up f j w) k v := by
  funext q
  by_cases h1 : q = k
  · subst h1
    rw [va_up_ne _ _ h, va_up_self, va_up_self]
  · by_cases h2 : q = j
    · subst h2
      rw [va_up_self, va_up_ne _ _ h1, va_up_self]
    · rw [va_up_ne _ _ h2, va_up_ne _ _ h1, va_up_ne _ _ h1, va_up_ne _ _ h2]

theorem hr_cell {cA : ClassId} {n : Nat} {z w : Nat → Int32} (h : ∀ p, p < n → z p = w p) : vp_cell cA (n, .inl z) = vp_cell cA (n, .inl w) := by
  rw [vp_cell_i, vp_cell_i]
  unfold arrV
  congr 1
  apply Array.ext
  · simp
  · intro i h1 h2
    have hi : i < n := by simpa using h1
    simp [h i hi]

theorem hl_norm {g : hl_G} {A : Nat → Prop} {H0 H : Heap} {L : List Nat} {f : Nat → va_E} {locs : List Loc} {a n : Nat} {cA : ClassId} {z w : Nat → Int32}
    (h : hl_H g A H0 L (va_up f a (.inl (cA, n, .inl z))) H locs) (hz : ∀ p, p < n → z p = w p) : hl_H g A H0 L (va_up f a (.inl (cA, n, .inl w))) H locs := by
  obtain ⟨hP, hD, hS, hA⟩ := h
  have key : ∀ (k : Nat) (q : Nat × va_E), (va_pl L (va_up f a (.inl (cA, n, .inl w))))[k]? = some q →
      ∃ x, (va_pl L (va_up f a (.inl (cA, n, .inl z))))[k]? = some (q.1, x) ∧ (x = q.2 ∨ (x = .inl (cA, n, .inl z) ∧ q.2 = .inl (cA, n, .inl w))) := by
    intro k q hk
    simp only [va_pl, List.getElem?_map] at hk ⊢
    cases hb : L[k]? with
    | none => rw [hb] at hk; cases hk
    | some b =>
      rw [hb] at hk
      cases hk
      by_cases hba : b = a
      · subst hba
        exact ⟨_, rfl, Or.inr ⟨va_up_self .., va_up_self ..⟩⟩
      · refine ⟨_, rfl, Or.inl ?_⟩
        show va_up f a _ b = va_up f a _ b
        rw [va_up_ne _ _ hba, va_up_ne _ _ hba]
  refine ⟨fun k q hk => ?_, ⟨fun i j x y hx hy hxy => ?_, fun k q hk => ?_⟩, hS, hA⟩
  · obtain ⟨x, h1, h2⟩ := key k q hk
    have h3 := hP k _ h1
    rcases h2 with h2 | ⟨h2, h4⟩
    · rw [h2] at h3; exact h3
    · rw [h2] at h3
      have h5 : H[q.1]? = some (vp_cell cA (n, .inl z)) := h3
      show va_at g.1 classes q H
      obtain ⟨q1, q2⟩ := q
      simp only at h4
      subst h4
      show H[q1]? = some (vp_cell cA (n, .inl w))
      rw [← hr_cell hz]
      exact h5
  · obtain ⟨_, h1, _⟩ := key i x hx
    obtain ⟨_, h2, _⟩ := key j y hy
    exact hD.1 i j _ _ h1 h2 hxy
  · obtain ⟨x, h1, _⟩ := key k q hk
    exact hD.2 k (q.1, x) h1

theorem hn_inc (x : Nat) : nI x + Int32.ofInt 1 = nI (x + 1) := nI_1 x
theorem hn_dec (x : Nat) : nI (x + 1) + Int32.ofInt (-1) = nI x := pk_m1 x

section
variable {p : Program} {l : Launch} {e : Env} {R : Room} {s : State} {m : MethodId} {args : Array Value} {below : List Frame} {meth : Method} {c : Code} {H : Heap} {locs : List Loc} {cells slots : Nat} {Q : State → Prop}
variable {cc : ByteArray} {pc nL : Nat} {ls : Array Slot} {rest : List Value} {g : hl_G} {A : Nat → Prop} {a : Nat} {H0 : Heap} {own : String} {L : List Nat} {f : Nat → va_E}

theorem hl_iastN (X : CallFix p m c cc nL s args tg own) (hK : hl_K g s) (h : hl_H g A H0 L f H locs) {n i v : Nat} {z : Nat → Nat}
    (ha : a ∈ L) (hfa : f a = hl_nat g n z) (hi : i < n) (hn : n < 2 ^ 31) (hdg : decode cc pc = .ok (.iastore, 1))
    (kk : ∀ (H1 : Heap) (locs1 : List Loc), hl_H g A H0 L (va_up f a (hl_nat g n (va_up z i v))) H1 locs1 →
      W p l e R s m args below meth c H1 locs1 cells slots Q (F0 m (pc + 1) ls rest)) :
    W p l e R s m args below meth c H locs cells slots Q (F0 m pc ls (.int (nI v) :: .int (nI i) :: .ref a :: rest)) := by
  refine hl_iast X hK h ha hfa hi hn hdg (fun H1 locs1 h1 => ?_)
  rw [hr_up] at h1
  exact kk H1 locs1 h1

end

/-- private static void leaveAll(int[] row) -/
theorem c_C_leaveAll (l : Launch) (g : hl_G) (sz : Nat) (L : List Nat) (f : Nat → va_E) (a n : Nat) (z : Nat → Nat) (ha : a ∈ L) (hfa : f a = hl_nat g n z) (hn : n < 2 ^ 31) :
    Met l y_C_leaveAll (hq y_C_leaveAll b_C_leaveAll 2 none) { frames := 0, cells := 0, slots := 0, locals := 0 } (hm_P g [.ref a] sz L f)
      (va_Qv (fun u => u = (L, va_up f a (hl_nat g n id))) (hm_B g sz L) (hm_A sz L)) 0 0 (hm_A sz L) := by
  refine hm_ofW (by decide) (Nat.le_of_ble_eq_true rfl) ?_
  intro p e s m below meth c X hr hlk _ hK hsz hh ls hl
  have hl : lv_has ls 2 [(0, .ref a)] := hl
  have loop : ∀ (k i : Nat) (z : Nat → Nat) (H : Heap) (locs : List Loc) (ls : Array Slot), k + i = n → (∀ p, p < i → z p = p) →
      hl_H g (hm_A sz L) s.heap L (va_up f a (hl_nat g n z)) H locs → lv_has ls 2 [(1, .int (nI i)), (0, .ref a)] →
      W p l e { frames := 0, cells := 0, slots := 0, locals := 0 } s m #[.ref a] below meth c H locs 0 0 (MQ below (va_Qv (fun u => u = (L, va_up f a (hl_nat g n id))) (hm_B g sz L) (hm_A sz L)) #[.ref a] s 0 0 (hm_A sz L)) (F0 m 2 ls []) := by
    intro k
    induction k with
    | zero =>
      intro i z H locs ls hki hz hh hl
      refine lv_iload_n X.1 X.2.1 d_C_leaveAll_2 rfl (lv_at hl 0 rfl) ?_
      refine lv_aload_n X.1 X.2.1 d_C_leaveAll_3 rfl (lv_at hl 1 rfl) ?_
      refine hl_alenI X hK hh ha (va_up_self ..) d_C_leaveAll_4 ?_
      refine hn_ige (tgt := 18) X (by omega) (by omega) d_C_leaveAll_5 (by decide) (fun hc => ?_) (fun hc => ?_)
      · have hh := hl_norm (w := fun p => nI (id p)) hh (fun p hp => by rw [hz p (by omega)]; rfl)
        exact hm_vret X hr hlk hh rfl (Nat.le_refl _) (Nat.le_refl _) d_C_leaveAll_18
      · omega
    | succ k ih =>
      intro i z H locs ls hki hz hh hl
      refine lv_iload_n X.1 X.2.1 d_C_leaveAll_2 rfl (lv_at hl 0 rfl) ?_
      refine lv_aload_n X.1 X.2.1 d_C_leaveAll_3 rfl (lv_at hl 1 rfl) ?_
      refine hl_alenI X hK hh ha (va_up_self ..) d_C_leaveAll_4 ?_
      refine hn_ige (tgt := 18) X (by omega) (by omega) d_C_leaveAll_5 (by decide) (fun hc => ?_) (fun hc => ?_)
      · omega
      · refine lv_aload_n X.1 X.2.1 d_C_leaveAll_8 rfl (lv_at hl 1 rfl) ?_
        refine lv_iload_n X.1 X.2.1 d_C_leaveAll_9 rfl (lv_at hl 0 rfl) ?_
        refine lv_iload_n X.1 X.2.1 d_C_leaveAll_10 rfl (lv_at hl 0 rfl) ?_
        refine hl_iastN X hK hh ha (va_up_self ..) hc hn d_C_leaveAll_11 (fun H locs hh => ?_)
        rw [hr_uu] at hh
        refine lv_iinc (v := nI (i + 1)) (lv' := [(1, .int (nI (i + 1))), (0, .ref a)]) X.1 X.2.1 d_C_leaveAll_12 hl (k := 0) rfl (hn_inc i) (by decide) rfl (fun ls hl => ?_)
        refine lv_goto (tgt := 2) X.1 X.2.1 d_C_leaveAll_15 (by decide) ?_
        refine ih (i + 1) (va_up z i i) H locs ls (by omega) (fun p hp => ?_) hh hl
        by_cases hpi : p = i
        · rw [hpi, va_up_self]
        · rw [va_up_ne _ _ hpi]; exact hz p (by omega)
  refine lv_iconst (v := nI 0) X.1 X.2.1 d_C_leaveAll_0 (by decide) ?_
  refine lv_istore_n (lv' := [(1, .int (nI 0)), (0, .ref a)]) X.1 X.2.1 d_C_leaveAll_1 rfl hl (by decide) rfl (fun ls hl => ?_)
  have hh : hl_H g (hm_A sz L) s.heap L (va_up f a (hl_nat g n z)) s.heap [] := by
    rw [← hfa, hr_id]; exact hh
  exact loop n 0 z s.heap [] ls (by omega) (fun p hp => absurd hp (Nat.not_lt_zero _)) hh hl

end
end
section
/-! java.util.Arrays.fill; the class Decimal, but for its constructor. -/
section
theorem hl_ne {T : Nat → Nat} {a b : Nat} (h : T a ≠ T b) : a ≠ b := fun e => h (congrArg T e)

/-- the state as one row of it changed, or not at all -/
theorem hl_same {g : hl_G} {A : Nat → Prop} {H0 H : Heap} {L : List Nat} {f : Nat → va_E} {locs : List Loc} {a : Nat} {x : va_E} (hfa : f a = x) (h : hl_H g A H0 L f H locs) : hl_H g A H0 L (va_up f a x) H locs := by
  rw [← hfa, hr_id]; exact h

/-- public static void fill(int[] a, int val) -/
theorem c_A_fill (l : Launch) (g : hl_G) (sz : Nat) (L : List Nat) (f : Nat → va_E) (a n : Nat) (v : Int32) (z : Nat → Int32) (ha : a ∈ L) (hfa : f a = hl_row g n z) (hn : n < 2 ^ 31) :
    Met l y_A_fill (hq y_A_fill b_A_fill 4 none) { frames := 0, cells := 0, slots := 0, locals := 0 } (hm_P g [.ref a, .int v] sz L f) (va_Qv (fun u => u = (L, va_up f a (hl_row g n (fun _ => v)))) (hm_B g sz L) (hm_A sz L)) 0 0 (hm_A sz L) := by
  refine hm_ofW (by decide) (Nat.le_of_ble_eq_true rfl) ?_
  intro p e s m below meth c X hr hlk hnm hK hsz hh ls hl
  have hl : lv_has ls 4 [(0, .ref a), (1, .int v)] := hl
  have loop : ∀ (k i : Nat) (z : Nat → Int32) (H : Heap) (locs : List Loc) (ls : Array Slot), n + 1 ≤ i + k → i ≤ n → (∀ p, p < i → z p = v) →
      hl_H g (hm_A sz L) s.heap L (va_up f a (hl_row g n z)) H locs → lv_has ls 4 [(3, .int (nI n)), (2, .int (nI i)), (0, .ref a), (1, .int v)] →
      W p l e { frames := 0, cells := 0, slots := 0, locals := 0 } s m #[.ref a, .int v] below meth c H locs 0 0 (MQ below (va_Qv (fun u => u = (L, va_up f a (hl_row g n (fun _ => v)))) (hm_B g sz L) (hm_A sz L)) #[.ref a, .int v] s 0 0 (hm_A sz L)) (F0 m 5 ls []) := by
    intro k
    induction k with
    | zero => intros; omega
    | succ k ih =>
      intro i z H locs ls hki hin hz hh hl
      refine lv_iload_n X.1 X.2.1 d_A_fill_5 rfl (lv_at hl 1 rfl) ?_
      refine lv_iload_n X.1 X.2.1 d_A_fill_6 rfl (lv_at hl 0 rfl) ?_
      refine hn_ige (tgt := 20) X (by omega) (by omega) d_A_fill_7 (by decide) (fun hc => ?_) (fun hc => ?_)
      · have hh := hl_norm (w := fun _ => v) hh (fun p hp => hz p (by omega))
        exact hm_vret X hr hlk hh rfl (Nat.le_of_ble_eq_true rfl) (Nat.le_of_ble_eq_true rfl) d_A_fill_20
      · skip
        refine lv_aload_n X.1 X.2.1 d_A_fill_10 rfl (lv_at hl 2 rfl) ?_
        refine lv_iload_n X.1 X.2.1 d_A_fill_11 rfl (lv_at hl 1 rfl) ?_
        refine lv_iload_n X.1 X.2.1 d_A_fill_12 rfl (lv_at hl 3 rfl) ?_
        refine hl_iast X hK hh ha (va_up_self ..) (by omega) (by omega) d_A_fill_13 (fun H locs hh => ?_)
        rw [hr_uu] at hh
        refine lv_iinc (v := nI (i + 1)) (lv' := [(2, .int (nI (i + 1))), (3, .int (nI n)), (0, .ref a), (1, .int v)]) X.1 X.2.1 d_A_fill_14 hl (k := 1) rfl (hn_inc _) (by decide) rfl (fun ls hl => ?_)
        refine lv_goto (tgt := 5) X.1 X.2.1 d_A_fill_17 (by decide) ?_
        refine ih (i + 1) (va_up z i v) H locs ls (by omega) (by omega) (fun p hp => ?_) hh (lv_sub hl [1, 0, 2, 3] rfl)
        by_cases hpi : p = i
        · rw [hpi, va_up_self]
        · rw [va_up_ne _ _ hpi]; exact hz p (by omega)
  refine lv_iconst (v := nI 0) X.1 X.2.1 d_A_fill_0 (by decide) ?_
  refine lv_istore_n (lv' := [(2, .int (nI 0)), (0, .ref a), (1, .int v)]) X.1 X.2.1 d_A_fill_1 rfl hl (by decide) rfl (fun ls hl => ?_)
  refine lv_aload_n X.1 X.2.1 d_A_fill_2 rfl (lv_at hl 1 rfl) ?_
  refine hl_alenI X hK hh ha hfa d_A_fill_3 ?_
  refine lv_istore_n (lv' := [(3, .int (nI n)), (2, .int (nI 0)), (0, .ref a), (1, .int v)]) X.1 X.2.1 d_A_fill_4 rfl hl (by decide) rfl (fun ls hl => ?_)
  exact loop (n + 1) 0 z s.heap [] ls (by omega) (by omega) (fun p hp => absurd hp (Nat.not_lt_zero _)) (hl_same hfa hh) hl

/-- void setOne() -/
theorem c_D_setOne (l : Launch) (g : hl_G) (sz : Nat) (L : List Nat) (f : Nat → va_E) (o a : Nat) (z : Nat → Nat) (ho : o ∈ L) (hfo : f o = .inr (2, [.ref a])) (ha : a ∈ L) (hfa : f a = hl_nat g 24 z) (hoa : o ≠ a) :
    Met l y_D_setOne (hq y_D_setOne b_D_setOne 1 none) { frames := 1, cells := 0, slots := 0, locals := 30 } (hm_P g [.ref o] sz L f) (va_Qv (fun u => u = (L, va_up f a (hl_nat g 24 (fun p => if p = 0 then 1 else 0)))) (hm_B g sz L) (hm_A sz L)) 0 0 (hm_A sz L) := by
  refine hm_ofW (by decide) (Nat.le_of_ble_eq_true rfl) ?_
  intro p e s m below meth c X hr hlk hnm hK hsz hh ls hl
  have hl : lv_has ls 1 [(0, .ref o)] := hl
  refine lv_aload_n X.1 X.2.1 d_D_setOne_0 rfl (lv_at hl 0 rfl) ?_
  refine hl_get X hK hh (ref := "CycleGroups$Decimal") i_D (ci := 2) rfl 0 (by decide) w_43 rfl ho hfo rfl d_D_setOne_1 ?_
  refine lv_iconst (v := nI 0) X.1 X.2.1 d_D_setOne_4 (by decide) ?_
  refine hl_callv hh (hl_runS (k := 2) X hK hh (c_A_fill l g _ L f a 24 (nI 0) _ ha hfa (by decide)) wc_A_fill w_229 w_8 wi_A_fill (by decide +kernel) rfl rfl ⟨Nat.le_of_ble_eq_true rfl, Nat.le_of_ble_eq_true rfl⟩ rfl rfl (Nat.le_of_ble_eq_true rfl) hl.1 d_D_setOne_5 ⟨Nat.le_of_ble_eq_true rfl, Nat.le_of_ble_eq_true rfl⟩) (fun u H locs hp hh => ?_)
  subst hp
  refine lv_aload_n X.1 X.2.1 d_D_setOne_8 rfl (lv_at hl 0 rfl) ?_
  refine hl_get X hK hh (ref := "CycleGroups$Decimal") i_D (ci := 2) rfl 0 (by decide) w_43 rfl ho ((va_up_ne _ _ hoa).trans hfo) rfl d_D_setOne_9 ?_
  refine lv_iconst (v := nI 0) X.1 X.2.1 d_D_setOne_12 (by decide) ?_
  refine lv_iconst (v := nI 1) X.1 X.2.1 d_D_setOne_13 (by decide) ?_
  refine hl_iast X hK hh ha (va_up_self ..) (by omega) (by omega) d_D_setOne_14 (fun H locs hh => ?_)
  rw [hr_uu] at hh
  have hh := hl_norm (w := fun p => nI (if p = 0 then 1 else 0)) hh (fun p hp => by
    by_cases h : p = 0
    · rw [h, va_up_self]; rfl
    · rw [va_up_ne _ _ h, if_neg h])
  exact hm_vret X hr hlk hh rfl (Nat.le_of_ble_eq_true rfl) (Nat.le_of_ble_eq_true rfl) d_D_setOne_15

/-- the carries of a number by its digits, multiplied -/
def dg_car (d : Nat → Nat) (k : Nat) : Nat → Nat
  | 0 => 0
  | i + 1 => (d i * k + dg_car d k i) / 10
def dg_mul (d : Nat → Nat) (k i : Nat) : Nat := (d i * k + dg_car d k i) % 10
theorem dg_car_lt (d : Nat → Nat) (k : Nat) (hk : k ≤ 24) (hd : ∀ i, d i < 10) : ∀ i, dg_car d k i ≤ 24 := by
  intro i
  induction i with
  | zero => exact Nat.zero_le _
  | succ i ih =>
    show (d i * k + dg_car d k i) / 10 ≤ 24
    have h1 : d i * k ≤ 9 * 24 := Nat.mul_le_mul (by have := hd i; omega) hk
    omega

/-- void multiply(int factor) -/
theorem c_D_multiply (l : Launch) (g : hl_G) (sz : Nat) (L : List Nat) (f : Nat → va_E) (o a k : Nat) (d : Nat → Nat) (ho : o ∈ L) (hfo : f o = .inr (2, [.ref a])) (ha : a ∈ L) (hfa : f a = hl_nat g 24 d) (hoa : o ≠ a) (hk : k ≤ 24) (hd : ∀ i, d i < 10) :
    Met l y_D_multiply (hq y_D_multiply b_D_multiply 5 none) { frames := 0, cells := 0, slots := 0, locals := 0 } (hm_P g [.ref o, .int (nI k)] sz L f) (va_Qv (fun u => u = (L, va_up f a (hl_nat g 24 (dg_mul d k)))) (hm_B g sz L) (hm_A sz L)) 0 0 (hm_A sz L) := by
  refine hm_ofW (by decide) (Nat.le_of_ble_eq_true rfl) ?_
  intro p e s m below meth c X hr hlk hnm hK hsz hh ls hl
  have hl : lv_has ls 5 [(0, .ref o), (1, .int (nI k))] := hl
  have loop : ∀ (t i : Nat) (z : Nat → Nat) (H : Heap) (locs : List Loc) (ls : Array Slot), 25 ≤ i + t → i ≤ 24 → (∀ p, p < i → z p = dg_mul d k p) → (∀ p, i ≤ p → z p = d p) →
      hl_H g (hm_A sz L) s.heap L (va_up f a (hl_nat g 24 z)) H locs → lv_has ls 5 [(3, .int (nI i)), (2, .int (nI (dg_car d k i))), (0, .ref o), (1, .int (nI k))] →
      W p l e { frames := 0, cells := 0, slots := 0, locals := 0 } s m #[.ref o, .int (nI k)] below meth c H locs 0 0 (MQ below (va_Qv (fun u => u = (L, va_up f a (hl_nat g 24 (dg_mul d k)))) (hm_B g sz L) (hm_A sz L)) #[.ref o, .int (nI k)] s 0 0 (hm_A sz L)) (F0 m 4 ls []) := by
    intro t
    induction t with
    | zero => intros; omega
    | succ t ih =>
      intro i z H locs ls hki hin hz hz2 hh hl
      have hci := dg_car_lt d k hk hd i
      refine lv_iload_n X.1 X.2.1 d_D_multiply_4 rfl (lv_at hl 0 rfl) ?_
      refine lv_aload_n X.1 X.2.1 d_D_multiply_5 rfl (lv_at hl 2 rfl) ?_
      refine hl_get X hK hh (ref := "CycleGroups$Decimal") i_D (ci := 2) rfl 0 (by decide) w_43 rfl ho ((va_up_ne _ _ hoa).trans hfo) rfl d_D_multiply_6 ?_
      refine hl_alenI X hK hh ha (va_up_self ..) d_D_multiply_9 ?_
      refine hn_ige (tgt := 48) X (by omega) (by omega) d_D_multiply_10 (by decide) (fun hc => ?_) (fun hc => ?_)
      · have hh := hl_norm (w := fun p => nI (dg_mul d k p)) hh (fun p hp => by rw [hz p (by omega)])
        exact hm_vret X hr hlk hh rfl (Nat.le_of_ble_eq_true rfl) (Nat.le_of_ble_eq_true rfl) d_D_multiply_48
      · have hzi := hz2 i (Nat.le_refl _)
        have hdi := hd i
        have hm : z i * k ≤ 9 * 24 := by rw [hzi]; exact Nat.mul_le_mul (by omega) hk
        refine lv_aload_n X.1 X.2.1 d_D_multiply_13 rfl (lv_at hl 2 rfl) ?_
        refine hl_get X hK hh (ref := "CycleGroups$Decimal") i_D (ci := 2) rfl 0 (by decide) w_43 rfl ho ((va_up_ne _ _ hoa).trans hfo) rfl d_D_multiply_14 ?_
        refine lv_iload_n X.1 X.2.1 d_D_multiply_17 rfl (lv_at hl 0 rfl) ?_
        refine hl_iald X hK hh ha (va_up_self ..) (by omega) (by omega) d_D_multiply_18 ?_
        refine lv_iload_n X.1 X.2.1 d_D_multiply_19 rfl (lv_at hl 3 rfl) ?_
        refine hn_mul X d_D_multiply_20 ?_
        refine lv_iload_n X.1 X.2.1 d_D_multiply_21 rfl (lv_at hl 1 rfl) ?_
        refine hn_add X d_D_multiply_22 ?_
        refine lv_istore (lv' := [(4, .int (nI (((z i) * k) + (dg_car d k i)))), (3, .int (nI i)), (2, .int (nI (dg_car d k i))), (0, .ref o), (1, .int (nI k))]) X.1 X.2.1 d_D_multiply_23 hl (by decide) rfl (fun ls hl => ?_)
        refine lv_aload_n X.1 X.2.1 d_D_multiply_25 rfl (lv_at hl 3 rfl) ?_
        refine hl_get X hK hh (ref := "CycleGroups$Decimal") i_D (ci := 2) rfl 0 (by decide) w_43 rfl ho ((va_up_ne _ _ hoa).trans hfo) rfl d_D_multiply_26 ?_
        refine lv_iload_n X.1 X.2.1 d_D_multiply_29 rfl (lv_at hl 1 rfl) ?_
        refine lv_iload X.1 X.2.1 d_D_multiply_30 (lv_at hl 0 rfl) ?_
        refine lv_bipush (v := nI 10) X.1 X.2.1 d_D_multiply_32 (by decide) ?_
        refine hn_rem X (by omega) (by omega) (by omega) d_D_multiply_34 ?_
        refine hl_iastN X hK hh ha (va_up_self ..) (by omega) (by omega) d_D_multiply_35 (fun H locs hh => ?_)
        rw [hr_uu] at hh
        refine lv_iload X.1 X.2.1 d_D_multiply_36 (lv_at hl 0 rfl) ?_
        refine lv_bipush (v := nI 10) X.1 X.2.1 d_D_multiply_38 (by decide) ?_
        refine hn_div X (by omega) (by omega) (by omega) d_D_multiply_40 ?_
        refine lv_istore_n (lv' := [(2, .int (nI ((((z i) * k) + (dg_car d k i)) / 10))), (4, .int (nI (((z i) * k) + (dg_car d k i)))), (3, .int (nI i)), (0, .ref o), (1, .int (nI k))]) X.1 X.2.1 d_D_multiply_41 rfl hl (by decide) rfl (fun ls hl => ?_)
        refine lv_iinc (v := nI (i + 1)) (lv' := [(3, .int (nI (i + 1))), (2, .int (nI ((((z i) * k) + (dg_car d k i)) / 10))), (4, .int (nI (((z i) * k) + (dg_car d k i)))), (0, .ref o), (1, .int (nI k))]) X.1 X.2.1 d_D_multiply_42 hl (k := 2) rfl (hn_inc _) (by decide) rfl (fun ls hl => ?_)
        refine lv_goto (tgt := 4) X.1 X.2.1 d_D_multiply_45 (by decide) ?_
        rw [hzi] at hh hl
        refine ih (i + 1) (va_up z i (dg_mul d k i)) H locs ls (by omega) (by omega) (fun p hp => ?_) (fun p hp => ?_) hh (lv_sub hl [0, 1, 3, 4] rfl)
        · by_cases hpi : p = i
          · rw [hpi, va_up_self]
          · rw [va_up_ne _ _ hpi]; exact hz p (by omega)
        · rw [va_up_ne _ _ (by omega)]; exact hz2 p (by omega)
  refine lv_iconst (v := nI 0) X.1 X.2.1 d_D_multiply_0 (by decide) ?_
  refine lv_istore_n (lv' := [(2, .int (nI 0)), (0, .ref o), (1, .int (nI k))]) X.1 X.2.1 d_D_multiply_1 rfl hl (by decide) rfl (fun ls hl => ?_)
  refine lv_iconst (v := nI 0) X.1 X.2.1 d_D_multiply_2 (by decide) ?_
  refine lv_istore_n (lv' := [(3, .int (nI 0)), (2, .int (nI 0)), (0, .ref o), (1, .int (nI k))]) X.1 X.2.1 d_D_multiply_3 rfl hl (by decide) rfl (fun ls hl => ?_)
  exact loop 25 0 d s.heap [] ls (by omega) (by omega) (fun p hp => absurd hp (Nat.not_lt_zero _)) (fun _ _ => rfl) (hl_same hfa hh) hl
end
end
section
/-! The layer: Math.min, Math.max, Object's constructor; the rest of Decimal. -/
section
section
variable {p : Program} {l : Launch} {e : Env} {R : Room} {s : State} {m : MethodId} {args : Array Value} {below : List Frame} {meth : Method} {c : Code} {H : Heap} {locs : List Loc} {cells slots : Nat} {Q : State → Prop}
variable {cc : ByteArray} {pc nL : Nat} {ls : Array Slot} {rest : List Value} {own : String} {x y : Nat}

theorem hn_max {index : Nat} (X : CallFix p m c cc nL s args tg own) (hlink : Cond.methodLink own index Lib.Math.max.name ∈ tg) (hls : ls.size = nL) (hx : x < 2 ^ 31) (hy : y < 2 ^ 31)
    (hframes : 1 ≤ R.frames) (hlocals : (rest.map fun v => v.category).sum + 13 ≤ R.locals) (hc : cells ≤ R.cells) (hs : slots ≤ R.slots) (hdg : decode cc pc = .ok (.invokestatic index, 3))
    (kk : W p l e R s m args below meth c H locs cells slots Q (F0 m (pc + 3) ls (.int (nI (max x y)) :: rest))) : W p l e R s m args below meth c H locs cells slots Q (F0 m pc ls (.int (nI y) :: .int (nI x) :: rest)) := by
  refine va_mmax X.1 X.2.1 (by rw [X.2.2.1]; exact hls.symm) X.2.2.2.1 (X.2.2.2.2 _ hlink) (X.2.2.2.2 _ (tg_of (by decide +kernel) rfl)) (X.2.2.2.2 _ (tg_of (by decide +kernel) rfl)) (X.2.2.2.2 _ (tg_of (by decide +kernel) rfl)) hframes hlocals hc hs hdg ?_
  have e1 : (if nI x < nI y then nI y else nI x) = nI (max x y) := by
    by_cases h : x < y
    · rw [if_pos ((nI_ltI hx hy).2 h), Nat.max_eq_right (by omega)]
    · rw [if_neg (fun h2 => h ((nI_ltI hx hy).1 h2)), Nat.max_eq_left (by omega)]
  rw [e1]
  exact kk

theorem hn_min {index : Nat} (X : CallFix p m c cc nL s args tg own) (hlink : Cond.methodLink own index Lib.Math.min.name ∈ tg) (hls : ls.size = nL) (hx : x < 2 ^ 31) (hy : y < 2 ^ 31)
    (hframes : 1 ≤ R.frames) (hlocals : (rest.map fun v => v.category).sum + 13 ≤ R.locals) (hc : cells ≤ R.cells) (hs : slots ≤ R.slots) (hdg : decode cc pc = .ok (.invokestatic index, 3))
    (kk : W p l e R s m args below meth c H locs cells slots Q (F0 m (pc + 3) ls (.int (nI (min x y)) :: rest))) : W p l e R s m args below meth c H locs cells slots Q (F0 m pc ls (.int (nI y) :: .int (nI x) :: rest)) := by
  refine va_mmin X.1 X.2.1 (by rw [X.2.2.1]; exact hls.symm) X.2.2.2.1 (X.2.2.2.2 _ hlink) (X.2.2.2.2 _ (tg_of (by decide +kernel) rfl)) (X.2.2.2.2 _ (tg_of (by decide +kernel) rfl)) (X.2.2.2.2 _ (tg_of (by decide +kernel) rfl)) hframes hlocals hc hs hdg ?_
  have e1 : (if nI y < nI x then nI y else nI x) = nI (min x y) := by
    by_cases h : y < x
    · rw [if_pos ((nI_ltI hy hx).2 h), Nat.min_eq_right (by omega)]
    · rw [if_neg (fun h2 => h ((nI_ltI hy hx).1 h2)), Nat.min_eq_left (by omega)]
  rw [e1]
  exact kk

theorem hl_objI {idx a : Nat} (X : CallFix p m c cc nL s args tg own) (hlink : Cond.methodLink own idx Lib.objectInit ∈ tg) (hls : ls.size = nL) (hframes : 1 ≤ R.frames)
    (hlocals : (rest.map fun v => v.category).sum + 12 ≤ R.locals) (hdg : decode cc pc = .ok (.invokespecial idx, 3))
    (kk : W p l e R s m args below meth c H locs cells slots Q (F0 m (pc + 3) ls rest)) : W p l e R s m args below meth c H locs cells slots Q (F0 m pc ls (.ref a :: rest)) :=
  W.objInit X.1 X.2.1 X.2.2.2.1 (X.2.2.2.2 _ hlink) (X.2.2.2.2 _ (tg_of (by decide +kernel) rfl)) (X.2.2.2.2 _ (tg_of (by decide +kernel) rfl)) rfl (by rw [X.2.2.1]; exact hls) rfl hdg hframes (by show 2 * 0 + _ + 12 ≤ _; omega) kk
end

section
variable {p : Program} {l : Launch} {e : Env} {R : Room} {s : State} {m : MethodId} {args : Array Value} {below : List Frame} {meth : Method} {c : Code} {H : Heap} {locs : List Loc} {cells slots : Nat} {Q : State → Prop}
variable {cc : ByteArray} {pc nL : Nat} {ls : Array Slot} {rest : List Value} {own : String} {x : Nat}
theorem hn_zeq {off : Int} {tgt : Nat} (X : CallFix p m c cc nL s args tg own) (hx : x < 2 ^ 31) (hdg : decode cc pc = .ok (.ifCond .eq off, 3)) (ht : (pc : Int) + off = (tgt : Int))
    (kt : x = 0 → W p l e R s m args below meth c H locs cells slots Q (F0 m tgt ls rest)) (kf : ¬ x = 0 → W p l e R s m args below meth c H locs cells slots Q (F0 m (pc + 3) ls rest)) : W p l e R s m args below meth c H locs cells slots Q (F0 m pc ls (.int (nI x) :: rest)) :=
  lv_if_eq X.1 X.2.1 hdg ht (fun h => kt (Decidable.byContradiction fun e => nI_ne0 (Nat.pos_of_ne_zero e) hx h)) (fun h => kf (fun e => h (by rw [e]; rfl)))
theorem hn_zne {off : Int} {tgt : Nat} (X : CallFix p m c cc nL s args tg own) (hx : x < 2 ^ 31) (hdg : decode cc pc = .ok (.ifCond .ne off, 3)) (ht : (pc : Int) + off = (tgt : Int))
    (kt : ¬ x = 0 → W p l e R s m args below meth c H locs cells slots Q (F0 m tgt ls rest)) (kf : x = 0 → W p l e R s m args below meth c H locs cells slots Q (F0 m (pc + 3) ls rest)) : W p l e R s m args below meth c H locs cells slots Q (F0 m pc ls (.int (nI x) :: rest)) :=
  lv_if_ne X.1 X.2.1 hdg ht (fun h => kt (fun e => h (by rw [e]; rfl))) (fun h => kf (Decidable.byContradiction fun e => nI_ne0 (Nat.pos_of_ne_zero e) hx h))
end

/-- what is left over when the digits from t on (m of them) are divided by k -/
def dg_rs (d : Nat → Nat) (k : Nat) : Nat → Nat → Nat
  | 0, _ => 0
  | m + 1, t => (dg_rs d k m (t + 1) * 10 + d t) % k
/-- digit t of the number of n digits, divided by k -/
def dg_div (d : Nat → Nat) (k n t : Nat) : Nat := (dg_rs d k (n - t - 1) (t + 1) * 10 + d t) / k
theorem dg_rs_lt (d : Nat → Nat) {k : Nat} (hk : 0 < k) : ∀ m t, dg_rs d k m t < k := by
  intro m t
  cases m with
  | zero => exact hk
  | succ m => exact Nat.mod_lt _ hk

/-- void divide(int divisor) -/
theorem c_D_divide (l : Launch) (g : hl_G) (sz : Nat) (L : List Nat) (f : Nat → va_E) (o a k : Nat) (d : Nat → Nat) (ho : o ∈ L) (hfo : f o = .inr (2, [.ref a])) (ha : a ∈ L) (hfa : f a = hl_nat g 24 d) (hoa : o ≠ a) (hk0 : 0 < k) (hk : k ≤ 24) (hd : ∀ i, d i < 10) :
    Met l y_D_divide (hq y_D_divide b_D_divide 5 none) { frames := 0, cells := 0, slots := 0, locals := 0 } (hm_P g [.ref o, .int (nI k)] sz L f) (va_Qv (fun u => u = (L, va_up f a (hl_nat g 24 (dg_div d k 24)))) (hm_B g sz L) (hm_A sz L)) 0 0 (hm_A sz L) := by
  refine hm_ofW (by decide) (Nat.le_of_ble_eq_true rfl) ?_
  intro p e s m below meth c X hr hlk hnm hK hsz hh ls hl
  have hl : lv_has ls 5 [(0, .ref o), (1, .int (nI k))] := hl
  have loop : ∀ (t : Nat) (z : Nat → Nat) (H : Heap) (locs : List Loc) (ls : Array Slot), t ≤ 24 → (∀ p, t ≤ p → p < 24 → z p = dg_div d k 24 p) → (∀ p, p < t → z p = d p) →
      hl_H g (hm_A sz L) s.heap L (va_up f a (hl_nat g 24 z)) H locs → lv_has ls 5 [(3, .int (nI t + (-1))), (2, .int (nI (dg_rs d k (24 - t) t))), (0, .ref o), (1, .int (nI k))] →
      W p l e { frames := 0, cells := 0, slots := 0, locals := 0 } s m #[.ref o, .int (nI k)] below meth c H locs 0 0 (MQ below (va_Qv (fun u => u = (L, va_up f a (hl_nat g 24 (dg_div d k 24)))) (hm_B g sz L) (hm_A sz L)) #[.ref o, .int (nI k)] s 0 0 (hm_A sz L)) (F0 m 16 ls []) := by
    intro t
    induction t with
    | zero =>
      intro z H locs ls hin hz hz2 hh hl
      refine lv_iload_n X.1 X.2.1 d_D_divide_16 rfl (lv_at hl 0 rfl) ?_
      refine lv_if_lt (tgt := 54) X.1 X.2.1 d_D_divide_17 (by decide) (fun hc => ?_) (fun hc => ?_)
      · have hh := hl_norm (w := fun p => nI (dg_div d k 24 p)) hh (fun p hp => by rw [hz p (by omega) hp])
        exact hm_vret X hr hlk hh rfl (Nat.le_of_ble_eq_true rfl) (Nat.le_of_ble_eq_true rfl) d_D_divide_54
      · exact absurd (show (nI 0 + (-1) : Int32) < 0 by decide) hc
    | succ t ih =>
      intro z H locs ls hin hz hz2 hh hl
      rw [pk_m1] at hl
      have hr0 := dg_rs_lt d hk0 (24 - (t + 1)) (t + 1)
      refine lv_iload_n X.1 X.2.1 d_D_divide_16 rfl (lv_at hl 0 rfl) ?_
      refine lv_if_lt (tgt := 54) X.1 X.2.1 d_D_divide_17 (by decide) (fun hc => ?_) (fun hc => ?_)
      · exact absurd hc (nI_pos (by omega))
      · have hzi := hz2 t (Nat.lt_succ_self t)
        have hdi := hd t
        refine lv_iload_n X.1 X.2.1 d_D_divide_20 rfl (lv_at hl 1 rfl) ?_
        refine lv_bipush (v := nI 10) X.1 X.2.1 d_D_divide_21 (by decide) ?_
        refine hn_mul X d_D_divide_23 ?_
        refine lv_aload_n X.1 X.2.1 d_D_divide_24 rfl (lv_at hl 2 rfl) ?_
        refine hl_get X hK hh (ref := "CycleGroups$Decimal") i_D (ci := 2) rfl 0 (by decide) w_43 rfl ho ((va_up_ne _ _ hoa).trans hfo) rfl d_D_divide_25 ?_
        refine lv_iload_n X.1 X.2.1 d_D_divide_28 rfl (lv_at hl 0 rfl) ?_
        refine hl_iald X hK hh ha (va_up_self ..) (by omega) (by omega) d_D_divide_29 ?_
        refine hn_add X d_D_divide_30 ?_
        refine lv_istore (lv' := [(4, .int (nI (((dg_rs d k (24 - (t + 1)) (t + 1)) * 10) + (z t)))), (3, .int (nI t)), (2, .int (nI (dg_rs d k (24 - (t + 1)) (t + 1)))), (0, .ref o), (1, .int (nI k))]) X.1 X.2.1 d_D_divide_31 hl (by decide) rfl (fun ls hl => ?_)
        refine lv_aload_n X.1 X.2.1 d_D_divide_33 rfl (lv_at hl 3 rfl) ?_
        refine hl_get X hK hh (ref := "CycleGroups$Decimal") i_D (ci := 2) rfl 0 (by decide) w_43 rfl ho ((va_up_ne _ _ hoa).trans hfo) rfl d_D_divide_34 ?_
        refine lv_iload_n X.1 X.2.1 d_D_divide_37 rfl (lv_at hl 1 rfl) ?_
        refine lv_iload X.1 X.2.1 d_D_divide_38 (lv_at hl 0 rfl) ?_
        refine lv_iload_n X.1 X.2.1 d_D_divide_40 rfl (lv_at hl 4 rfl) ?_
        refine hn_div X (by omega) (by omega) (by omega) d_D_divide_41 ?_
        refine hl_iastN X hK hh ha (va_up_self ..) (by omega) (by omega) d_D_divide_42 (fun H locs hh => ?_)
        rw [hr_uu] at hh
        refine lv_iload X.1 X.2.1 d_D_divide_43 (lv_at hl 0 rfl) ?_
        refine lv_iload_n X.1 X.2.1 d_D_divide_45 rfl (lv_at hl 4 rfl) ?_
        refine hn_rem X (by omega) (by omega) (by omega) d_D_divide_46 ?_
        refine lv_istore_n (lv' := [(2, .int (nI ((((dg_rs d k (24 - (t + 1)) (t + 1)) * 10) + (z t)) % k))), (4, .int (nI (((dg_rs d k (24 - (t + 1)) (t + 1)) * 10) + (z t)))), (3, .int (nI t)), (0, .ref o), (1, .int (nI k))]) X.1 X.2.1 d_D_divide_47 rfl hl (by decide) rfl (fun ls hl => ?_)
        refine lv_iinc (v := nI t + (-1)) (lv' := [(3, .int (nI t + (-1))), (2, .int (nI ((((dg_rs d k (24 - (t + 1)) (t + 1)) * 10) + (z t)) % k))), (4, .int (nI (((dg_rs d k (24 - (t + 1)) (t + 1)) * 10) + (z t)))), (0, .ref o), (1, .int (nI k))]) X.1 X.2.1 d_D_divide_48 hl (k := 2) rfl rfl (by decide) rfl (fun ls hl => ?_)
        refine lv_goto (tgt := 16) X.1 X.2.1 d_D_divide_51 (by decide) ?_
        rw [hzi] at hh hl
        have e1 : 24 - t = (24 - (t + 1)) + 1 := by omega
        refine ih (va_up z t (dg_div d k 24 t)) H locs ls (by omega) (fun p hp hp2 => ?_) (fun p hp => ?_) hh ?_
        · by_cases hpi : p = t
          · rw [hpi, va_up_self]
          · rw [va_up_ne _ _ hpi]; exact hz p (by omega) hp2
        · rw [va_up_ne _ _ (by omega)]; exact hz2 p (by omega)
        · rw [e1]
          exact lv_sub hl [0, 1, 3, 4] rfl
  refine lv_iload_n X.1 X.2.1 d_D_divide_0 rfl (lv_at hl 1 rfl) ?_
  refine lv_iconst (v := nI 1) X.1 X.2.1 d_D_divide_1 (by decide) ?_
  refine hn_ige (tgt := 6) X (by omega) (by omega) d_D_divide_2 (by decide) (fun hc => ?_) (fun hc => ?_)
  · skip
    refine lv_iconst (v := nI 0) X.1 X.2.1 d_D_divide_6 (by decide) ?_
    refine lv_istore_n (lv' := [(2, .int (nI 0)), (0, .ref o), (1, .int (nI k))]) X.1 X.2.1 d_D_divide_7 rfl hl (by decide) rfl (fun ls hl => ?_)
    refine lv_aload_n X.1 X.2.1 d_D_divide_8 rfl (lv_at hl 1 rfl) ?_
    refine hl_get X hK hh (ref := "CycleGroups$Decimal") i_D (ci := 2) rfl 0 (by decide) w_43 rfl ho hfo rfl d_D_divide_9 ?_
    refine hl_alenI X hK hh ha hfa d_D_divide_12 ?_
    refine lv_iconst (v := nI 1) X.1 X.2.1 d_D_divide_13 (by decide) ?_
    refine hn_sub X (by omega) d_D_divide_14 ?_
    refine lv_istore_n (lv' := [(3, .int (nI (24 - 1))), (2, .int (nI 0)), (0, .ref o), (1, .int (nI k))]) X.1 X.2.1 d_D_divide_15 rfl hl (by decide) rfl (fun ls hl => ?_)
    exact loop 24 d s.heap [] ls (by omega) (fun p hp hp2 => absurd hp2 (by omega)) (fun _ _ => rfl) (hl_same hfa hh) hl
  · omega

/-- how many digits a number has: without leading noughts, one at least -/
def dg_len (d : Nat → Nat) : Nat → Nat
  | 0 => 0
  | 1 => 1
  | n + 2 => if d (n + 1) = 0 then dg_len d (n + 1) else n + 2
theorem dg_len_le (d : Nat → Nat) : ∀ n, dg_len d n ≤ n := by
  intro n
  induction n with
  | zero => exact Nat.le_refl _
  | succ n ih =>
    cases n with
    | zero => exact Nat.le_refl _
    | succ n =>
      show (if d (n + 1) = 0 then dg_len d (n + 1) else n + 2) ≤ n + 2
      by_cases h : d (n + 1) = 0
      · rw [if_pos h]; omega
      · rw [if_neg h]; exact Nat.le_refl _

/-- private int length() -/
theorem c_D_length (l : Launch) (g : hl_G) (sz : Nat) (L : List Nat) (f : Nat → va_E) (o a : Nat) (d : Nat → Nat) (ho : o ∈ L) (hfo : f o = .inr (2, [.ref a])) (ha : a ∈ L) (hfa : f a = hl_nat g 24 d) (hd : ∀ i, d i < 10) :
    Met l y_D_length (hq y_D_length b_D_length 2 (some .int)) { frames := 0, cells := 0, slots := 0, locals := 0 } (hm_P g [.ref o] sz L f) (va_Qi (fun r u => r = nI (dg_len d 24) ∧ u = (L, f)) (hm_B g sz L) (hm_A sz L)) 0 0 (hm_A sz L) := by
  refine hm_ofW (by decide) (Nat.le_of_ble_eq_true rfl) ?_
  intro p e s m below meth c X hr hlk hnm hK hsz hh ls hl
  have hl : lv_has ls 2 [(0, .ref o)] := hl
  have loop : ∀ (t : Nat) (ls : Array Slot), t + 1 ≤ 24 → dg_len d (t + 1) = dg_len d 24 → lv_has ls 2 [(1, .int (nI (t + 1))), (0, .ref o)] →
      W p l e { frames := 0, cells := 0, slots := 0, locals := 0 } s m #[.ref o] below meth c s.heap [] 0 0 (MQ below (va_Qi (fun r u => r = nI (dg_len d 24) ∧ u = (L, f)) (hm_B g sz L) (hm_A sz L)) #[.ref o] s 0 0 (hm_A sz L)) (F0 m 6 ls []) := by
    intro t
    induction t with
    | zero =>
      intro ls hin hz hl
      refine lv_iload_n X.1 X.2.1 d_D_length_6 rfl (lv_at hl 0 rfl) ?_
      refine lv_iconst (v := nI 1) X.1 X.2.1 d_D_length_7 (by decide) ?_
      refine hn_ile (tgt := 28) X (by omega) (by omega) d_D_length_8 (by decide) (fun hc => ?_) (fun hc => ?_)
      · skip
        refine lv_iload_n X.1 X.2.1 d_D_length_28 rfl (lv_at hl 0 rfl) ?_
        exact hm_iret X hr hlk hh ⟨by rw [← hz]; rfl, rfl⟩ (Nat.le_of_ble_eq_true rfl) (Nat.le_of_ble_eq_true rfl) d_D_length_29
      · omega
    | succ t ih =>
      intro ls hin hz hl
      refine lv_iload_n X.1 X.2.1 d_D_length_6 rfl (lv_at hl 0 rfl) ?_
      refine lv_iconst (v := nI 1) X.1 X.2.1 d_D_length_7 (by decide) ?_
      refine hn_ile (tgt := 28) X (by omega) (by omega) d_D_length_8 (by decide) (fun hc => ?_) (fun hc => ?_)
      · omega
      · skip
        have hdt := hd (t + 1 + 1 - 1)
        refine lv_aload_n X.1 X.2.1 d_D_length_11 rfl (lv_at hl 1 rfl) ?_
        refine hl_get X hK hh (ref := "CycleGroups$Decimal") i_D (ci := 2) rfl 0 (by decide) w_43 rfl ho hfo rfl d_D_length_12 ?_
        refine lv_iload_n X.1 X.2.1 d_D_length_15 rfl (lv_at hl 0 rfl) ?_
        refine lv_iconst (v := nI 1) X.1 X.2.1 d_D_length_16 (by decide) ?_
        refine hn_sub X (by omega) d_D_length_17 ?_
        refine hl_iald X hK hh ha hfa (by omega) (by omega) d_D_length_18 ?_
        refine hn_zne (tgt := 28) X (by omega) d_D_length_19 (by decide) (fun hc => ?_) (fun hc => ?_)
        · have hc : ¬ d (t + 1) = 0 := hc
          have hz : (if d (t + 1) = 0 then dg_len d (t + 1) else t + 2) = dg_len d 24 := hz
          rw [if_neg hc] at hz
          refine lv_iload_n X.1 X.2.1 d_D_length_28 rfl (lv_at hl 0 rfl) ?_
          exact hm_iret X hr hlk hh ⟨by rw [← hz], rfl⟩ (Nat.le_of_ble_eq_true rfl) (Nat.le_of_ble_eq_true rfl) d_D_length_29
        · have hc : d (t + 1) = 0 := hc
          have hz : (if d (t + 1) = 0 then dg_len d (t + 1) else t + 2) = dg_len d 24 := hz
          rw [if_pos hc] at hz
          refine lv_iinc (v := nI (t + 1)) (lv' := [(1, .int (nI (t + 1))), (0, .ref o)]) X.1 X.2.1 d_D_length_22 hl (k := 0) rfl (hn_dec _) (by decide) rfl (fun ls hl => ?_)
          refine lv_goto (tgt := 6) X.1 X.2.1 d_D_length_25 (by decide) ?_
          exact ih ls (by omega) hz hl
  refine lv_aload_n X.1 X.2.1 d_D_length_0 rfl (lv_at hl 0 rfl) ?_
  refine hl_get X hK hh (ref := "CycleGroups$Decimal") i_D (ci := 2) rfl 0 (by decide) w_43 rfl ho hfo rfl d_D_length_1 ?_
  refine hl_alenI X hK hh ha hfa d_D_length_4 ?_
  refine lv_istore_n (lv' := [(1, .int (nI 24)), (0, .ref o)]) X.1 X.2.1 d_D_length_5 rfl hl (by decide) rfl (fun ls hl => ?_)
  exact loop 23 ls (by omega) rfl hl

/-- the digit of a number by its digits, as it is asked for -/
def dg_at (d : Nat → Nat) (n : Nat) (x : Int32) : Int32 := if x < 0 then -1 else if x.toNatClampNeg < dg_len d n then nI (d x.toNatClampNeg) else -1

/-- int digit(int d) -/
theorem c_D_digit (l : Launch) (g : hl_G) (sz : Nat) (L : List Nat) (f : Nat → va_E) (o a : Nat) (d : Nat → Nat) (x : Int32) (ho : o ∈ L) (hfo : f o = .inr (2, [.ref a])) (ha : a ∈ L) (hfa : f a = hl_nat g 24 d) (hd : ∀ i, d i < 10) :
    Met l y_D_digit (hq y_D_digit b_D_digit 2 (some .int)) { frames := 1, cells := 0, slots := 0, locals := 30 } (hm_P g [.ref o, .int x] sz L f) (va_Qi (fun r u => r = dg_at d 24 x ∧ u = (L, f)) (hm_B g sz L) (hm_A sz L)) 0 0 (hm_A sz L) := by
  refine hm_ofW (by decide) (Nat.le_of_ble_eq_true rfl) ?_
  intro p e s m below meth c X hr hlk hnm hK hsz hh ls hl
  have hl : lv_has ls 2 [(0, .ref o), (1, .int x)] := hl
  have hlen := dg_len_le d 24
  refine lv_iload_n X.1 X.2.1 d_D_digit_0 rfl (lv_at hl 1 rfl) ?_
  refine lv_if_lt (tgt := 21) X.1 X.2.1 d_D_digit_1 (by decide) (fun hc => ?_) (fun hc => ?_)
  · skip
    refine lv_iconst (v := -1) X.1 X.2.1 d_D_digit_21 (by decide) ?_
    exact hm_iret X hr hlk hh ⟨by unfold dg_at; rw [if_pos hc], rfl⟩ (Nat.le_of_ble_eq_true rfl) (Nat.le_of_ble_eq_true rfl) d_D_digit_22
  · obtain ⟨j, hj, rfl⟩ := nI_of hc
    refine lv_iload_n X.1 X.2.1 d_D_digit_4 rfl (lv_at hl 1 rfl) ?_
    refine lv_aload_n X.1 X.2.1 d_D_digit_5 rfl (lv_at hl 0 rfl) ?_
    refine hl_calli hh (hl_runV (k := 0) X hK hh (c_D_length l g _ L f o a d ho hfo ha hfa hd) wc_D_length w_238 w_4 wi_D_length ws_D_length (by decide +kernel) rfl rfl ⟨Nat.le_of_ble_eq_true rfl, Nat.le_of_ble_eq_true rfl⟩ ho hfo rfl rfl rfl rfl (Nat.le_of_ble_eq_true rfl) hl.1 d_D_digit_6 ⟨Nat.le_of_ble_eq_true rfl, Nat.le_of_ble_eq_true rfl⟩) (fun r u H locs hp hh => ?_)
    obtain ⟨rfl, rfl⟩ := hp
    refine hn_ige (tgt := 21) X (by omega) (by omega) d_D_digit_9 (by decide) (fun hc => ?_) (fun hc => ?_)
    · skip
      refine lv_iconst (v := -1) X.1 X.2.1 d_D_digit_21 (by decide) ?_
      exact hm_iret X hr hlk hh ⟨by unfold dg_at; rw [if_neg (nI_pos hj), nI_clamp hj, if_neg (by omega)], rfl⟩ (Nat.le_of_ble_eq_true rfl) (Nat.le_of_ble_eq_true rfl) d_D_digit_22
    · skip
      refine lv_aload_n X.1 X.2.1 d_D_digit_12 rfl (lv_at hl 0 rfl) ?_
      refine hl_get X hK hh (ref := "CycleGroups$Decimal") i_D (ci := 2) rfl 0 (by decide) w_43 rfl ho hfo rfl d_D_digit_13 ?_
      refine lv_iload_n X.1 X.2.1 d_D_digit_16 rfl (lv_at hl 1 rfl) ?_
      refine hl_iald X hK hh ha hfa (by omega) (by omega) d_D_digit_17 ?_
      refine lv_goto (tgt := 22) X.1 X.2.1 d_D_digit_18 (by decide) ?_
      exact hm_iret X hr hlk hh ⟨by unfold dg_at; rw [if_neg (nI_pos hj), nI_clamp hj, if_pos hc], rfl⟩ (Nat.le_of_ble_eq_true rfl) (Nat.le_of_ble_eq_true rfl) d_D_digit_22
end
end
section
/-! The class Partition, but for its constructor. -/
section
/-- the sets of two places made one: z p is the least of p's set -/
def pt_join (z : Nat → Nat) (a b : Nat) : Nat → Nat := fun p => if z p = max (z a) (z b) then min (z a) (z b) else z p
theorem pt_join_same {z : Nat → Nat} {a b : Nat} (h : z a = z b) : pt_join z a b = z := by
  funext p
  unfold pt_join
  rw [h, Nat.max_self, Nat.min_self]
  by_cases h2 : z p = z b
  · rw [if_pos h2, h2]
  · rw [if_neg h2]
theorem pt_join_lt {z : Nat → Nat} {n a b : Nat} (hz : ∀ p, p < n → z p < n) (ha : a < n) (hb : b < n) : ∀ p, p < n → pt_join z a b p < n := by
  intro p hp
  have h1 := hz a ha
  have h2 := hz p hp
  unfold pt_join
  by_cases h : z p = max (z a) (z b)
  · rw [if_pos h]; omega
  · rw [if_neg h]; exact h2

/-- boolean join(int a, int b) -/
theorem c_P_join (l : Launch) (g : hl_G) (sz : Nat) (L : List Nat) (f : Nat → va_E) (o ar n a b : Nat) (z : Nat → Nat) (ho : o ∈ L) (hfo : f o = .inr (4, [.ref ar])) (har : ar ∈ L) (hfa : f ar = hl_nat g n z) (hoa : o ≠ ar)
    (hn : n ≤ 24) (hz : ∀ p, p < n → z p < n) (ha : a < n) (hb : b < n) :
    Met l y_P_join (hq y_P_join b_P_join 6 (some .boolean)) { frames := 1, cells := 0, slots := 0, locals := 20 } (hm_P g [.ref o, .int (nI a), .int (nI b)] sz L f) (va_Qi (fun r u => r = (if z a = z b then nI 0 else nI 1) ∧ u = (L, va_up f ar (hl_nat g n (pt_join z a b)))) (hm_B g sz L) (hm_A sz L)) 0 0 (hm_A sz L) := by
  refine hm_ofW (by decide) (Nat.le_of_ble_eq_true rfl) ?_
  intro p e s m below meth c X hr hlk hnm hK hsz hh ls hl
  have hl : lv_has ls 6 [(0, .ref o), (1, .int (nI a)), (2, .int (nI b))] := hl
  have hza := hz a ha
  have hzb := hz b hb
  have loop : ∀ (t i : Nat) (y : Nat → Nat) (H : Heap) (locs : List Loc) (ls : Array Slot), n + 1 ≤ i + t → i ≤ n → ¬ z a = z b → (∀ p, p < i → y p = pt_join z a b p) → (∀ p, i ≤ p → y p = z p) →
      hl_H g (hm_A sz L) s.heap L (va_up f ar (hl_nat g n y)) H locs → lv_has ls 6 [(5, .int (nI i)), (4, .int (nI (max (z a) (z b)))), (3, .int (nI (min (z a) (z b)))), (0, .ref o), (1, .int (nI a)), (2, .int (nI b))] →
      W p l e { frames := 1, cells := 0, slots := 0, locals := 20 } s m #[.ref o, .int (nI a), .int (nI b)] below meth c H locs 0 0 (MQ below (va_Qi (fun r u => r = (if z a = z b then nI 0 else nI 1) ∧ u = (L, va_up f ar (hl_nat g n (pt_join z a b)))) (hm_B g sz L) (hm_A sz L)) #[.ref o, .int (nI a), .int (nI b)] s 0 0 (hm_A sz L)) (F0 m 44 ls []) := by
    intro t
    induction t with
    | zero => intros; omega
    | succ t ih =>
      intro i y H locs ls hki hin hne hy hy2 hh hl
      refine lv_iload X.1 X.2.1 d_P_join_44 (lv_at hl 0 rfl) ?_
      refine lv_aload_n X.1 X.2.1 d_P_join_46 rfl (lv_at hl 3 rfl) ?_
      refine hl_get X hK hh (ref := "CycleGroups$Partition") i_P (ci := 4) rfl 0 (by decide) w_32 rfl ho ((va_up_ne _ _ hoa).trans hfo) rfl d_P_join_47 ?_
      refine hl_alenI X hK hh har (va_up_self ..) d_P_join_50 ?_
      refine hn_ige (tgt := 80) X (by omega) (by omega) d_P_join_51 (by decide) (fun hc => ?_) (fun hc => ?_)
      · have hh := hl_norm (w := fun p => nI (pt_join z a b p)) hh (fun p hp => by rw [hy p (by omega)])
        refine lv_iconst (v := nI 1) X.1 X.2.1 d_P_join_80 (by decide) ?_
        exact hm_zret X hr hlk hh (Or.inr rfl) ⟨by rw [if_neg hne], rfl⟩ (Nat.le_of_ble_eq_true rfl) (Nat.le_of_ble_eq_true rfl) d_P_join_81
      · have hyi := hy2 i (Nat.le_refl _)
        have hzi := hz i (by omega)
        refine lv_aload_n X.1 X.2.1 d_P_join_54 rfl (lv_at hl 3 rfl) ?_
        refine hl_get X hK hh (ref := "CycleGroups$Partition") i_P (ci := 4) rfl 0 (by decide) w_32 rfl ho ((va_up_ne _ _ hoa).trans hfo) rfl d_P_join_55 ?_
        refine lv_iload X.1 X.2.1 d_P_join_58 (lv_at hl 0 rfl) ?_
        refine hl_iald X hK hh har (va_up_self ..) (by omega) (by omega) d_P_join_60 ?_
        refine lv_iload X.1 X.2.1 d_P_join_61 (lv_at hl 1 rfl) ?_
        refine hn_ine (tgt := 74) X (by omega) (by omega) d_P_join_63 (by decide) (fun hc => ?_) (fun hc => ?_)
        · have hc : ¬ y i = max (z a) (z b) := hc
          refine lv_iinc (v := nI (i + 1)) (lv' := [(5, .int (nI (i + 1))), (4, .int (nI (max (z a) (z b)))), (3, .int (nI (min (z a) (z b)))), (0, .ref o), (1, .int (nI a)), (2, .int (nI b))]) X.1 X.2.1 d_P_join_74 hl (k := 0) rfl (hn_inc _) (by decide) rfl (fun ls hl => ?_)
          refine lv_goto (tgt := 44) X.1 X.2.1 d_P_join_77 (by decide) ?_
          refine ih (i + 1) y H locs ls (by omega) (by omega) hne (fun p hp => ?_) (fun p hp => hy2 p (by omega)) hh hl
          by_cases hpi : p = i
          · rw [hpi]
            unfold pt_join
            rw [if_neg (by rw [← hyi]; exact hc), hyi]
          · exact hy p (by omega)
        · have hc : y i = max (z a) (z b) := hc
          refine lv_aload_n X.1 X.2.1 d_P_join_66 rfl (lv_at hl 3 rfl) ?_
          refine hl_get X hK hh (ref := "CycleGroups$Partition") i_P (ci := 4) rfl 0 (by decide) w_32 rfl ho ((va_up_ne _ _ hoa).trans hfo) rfl d_P_join_67 ?_
          refine lv_iload X.1 X.2.1 d_P_join_70 (lv_at hl 0 rfl) ?_
          refine lv_iload_n X.1 X.2.1 d_P_join_72 rfl (lv_at hl 2 rfl) ?_
          refine hl_iastN X hK hh har (va_up_self ..) (by omega) (by omega) d_P_join_73 (fun H locs hh => ?_)
          rw [hr_uu] at hh
          refine lv_iinc (v := nI (i + 1)) (lv' := [(5, .int (nI (i + 1))), (4, .int (nI (max (z a) (z b)))), (3, .int (nI (min (z a) (z b)))), (0, .ref o), (1, .int (nI a)), (2, .int (nI b))]) X.1 X.2.1 d_P_join_74 hl (k := 0) rfl (hn_inc _) (by decide) rfl (fun ls hl => ?_)
          refine lv_goto (tgt := 44) X.1 X.2.1 d_P_join_77 (by decide) ?_
          refine ih (i + 1) (va_up y i (min (z a) (z b))) H locs ls (by omega) (by omega) hne (fun p hp => ?_) (fun p hp => ?_) hh hl
          · by_cases hpi : p = i
            · rw [hpi, va_up_self]
              unfold pt_join
              rw [if_pos (by rw [← hyi]; exact hc)]
            · rw [va_up_ne _ _ hpi]; exact hy p (by omega)
          · rw [va_up_ne _ _ (by omega)]; exact hy2 p (by omega)
  refine lv_aload_n X.1 X.2.1 d_P_join_0 rfl (lv_at hl 0 rfl) ?_
  refine hl_get X hK hh (ref := "CycleGroups$Partition") i_P (ci := 4) rfl 0 (by decide) w_32 rfl ho hfo rfl d_P_join_1 ?_
  refine lv_iload_n X.1 X.2.1 d_P_join_4 rfl (lv_at hl 1 rfl) ?_
  refine hl_iald X hK hh har hfa (by omega) (by omega) d_P_join_5 ?_
  refine lv_aload_n X.1 X.2.1 d_P_join_6 rfl (lv_at hl 0 rfl) ?_
  refine hl_get X hK hh (ref := "CycleGroups$Partition") i_P (ci := 4) rfl 0 (by decide) w_32 rfl ho hfo rfl d_P_join_7 ?_
  refine lv_iload_n X.1 X.2.1 d_P_join_10 rfl (lv_at hl 2 rfl) ?_
  refine hl_iald X hK hh har hfa (by omega) (by omega) d_P_join_11 ?_
  refine hn_min X w_259 hl.1 (by omega) (by omega) (Nat.le_of_ble_eq_true rfl) (Nat.le_of_ble_eq_true rfl) (Nat.le_of_ble_eq_true rfl) (Nat.le_of_ble_eq_true rfl) d_P_join_12 ?_
  refine lv_istore_n (lv' := [(3, .int (nI (min (z a) (z b)))), (0, .ref o), (1, .int (nI a)), (2, .int (nI b))]) X.1 X.2.1 d_P_join_15 rfl hl (by decide) rfl (fun ls hl => ?_)
  refine lv_aload_n X.1 X.2.1 d_P_join_16 rfl (lv_at hl 1 rfl) ?_
  refine hl_get X hK hh (ref := "CycleGroups$Partition") i_P (ci := 4) rfl 0 (by decide) w_32 rfl ho hfo rfl d_P_join_17 ?_
  refine lv_iload_n X.1 X.2.1 d_P_join_20 rfl (lv_at hl 2 rfl) ?_
  refine hl_iald X hK hh har hfa (by omega) (by omega) d_P_join_21 ?_
  refine lv_aload_n X.1 X.2.1 d_P_join_22 rfl (lv_at hl 1 rfl) ?_
  refine hl_get X hK hh (ref := "CycleGroups$Partition") i_P (ci := 4) rfl 0 (by decide) w_32 rfl ho hfo rfl d_P_join_23 ?_
  refine lv_iload_n X.1 X.2.1 d_P_join_26 rfl (lv_at hl 3 rfl) ?_
  refine hl_iald X hK hh har hfa (by omega) (by omega) d_P_join_27 ?_
  refine hn_max X w_260 hl.1 (by omega) (by omega) (Nat.le_of_ble_eq_true rfl) (Nat.le_of_ble_eq_true rfl) (Nat.le_of_ble_eq_true rfl) (Nat.le_of_ble_eq_true rfl) d_P_join_28 ?_
  refine lv_istore (lv' := [(4, .int (nI (max (z a) (z b)))), (3, .int (nI (min (z a) (z b)))), (0, .ref o), (1, .int (nI a)), (2, .int (nI b))]) X.1 X.2.1 d_P_join_31 hl (by decide) rfl (fun ls hl => ?_)
  refine lv_iload_n X.1 X.2.1 d_P_join_33 rfl (lv_at hl 1 rfl) ?_
  refine lv_iload X.1 X.2.1 d_P_join_34 (lv_at hl 0 rfl) ?_
  refine hn_ine (tgt := 41) X (by omega) (by omega) d_P_join_36 (by decide) (fun hc => ?_) (fun hc => ?_)
  · skip
    refine lv_iconst (v := nI 0) X.1 X.2.1 d_P_join_41 (by decide) ?_
    refine lv_istore (lv' := [(5, .int (nI 0)), (4, .int (nI (max (z a) (z b)))), (3, .int (nI (min (z a) (z b)))), (0, .ref o), (1, .int (nI a)), (2, .int (nI b))]) X.1 X.2.1 d_P_join_42 hl (by decide) rfl (fun ls hl => ?_)
    exact loop (n + 1) 0 z s.heap [] ls (by omega) (by omega) (by omega) (fun p hp => absurd hp (Nat.not_lt_zero _)) (fun _ _ => rfl) (hl_same hfa hh) hl
  · have he : z a = z b := by omega
    refine lv_iconst (v := nI 0) X.1 X.2.1 d_P_join_39 (by decide) ?_
    exact hm_zret X hr hlk hh (Or.inl rfl) ⟨by rw [if_pos he], by rw [pt_join_same he, ← hfa, hr_id]⟩ (Nat.le_of_ble_eq_true rfl) (Nat.le_of_ble_eq_true rfl) d_P_join_40

/-- int leastWith(int place) -/
theorem c_P_leastWith (l : Launch) (g : hl_G) (sz : Nat) (L : List Nat) (f : Nat → va_E) (o ar n a : Nat) (z : Nat → Nat) (ho : o ∈ L) (hfo : f o = .inr (4, [.ref ar])) (har : ar ∈ L) (hfa : f ar = hl_nat g n z) (hn : n ≤ 24) (ha : a < n) :
    Met l y_P_leastWith (hq y_P_leastWith b_P_leastWith 2 (some .int)) { frames := 0, cells := 0, slots := 0, locals := 0 } (hm_P g [.ref o, .int (nI a)] sz L f) (va_Qi (fun r u => r = nI (z a) ∧ u = (L, f)) (hm_B g sz L) (hm_A sz L)) 0 0 (hm_A sz L) := by
  refine hm_ofW (by decide) (Nat.le_of_ble_eq_true rfl) ?_
  intro p e s m below meth c X hr hlk hnm hK hsz hh ls hl
  have hl : lv_has ls 2 [(0, .ref o), (1, .int (nI a))] := hl
  refine lv_aload_n X.1 X.2.1 d_P_leastWith_0 rfl (lv_at hl 0 rfl) ?_
  refine hl_get X hK hh (ref := "CycleGroups$Partition") i_P (ci := 4) rfl 0 (by decide) w_32 rfl ho hfo rfl d_P_leastWith_1 ?_
  refine lv_iload_n X.1 X.2.1 d_P_leastWith_4 rfl (lv_at hl 1 rfl) ?_
  refine hl_iald X hK hh har hfa (by omega) (by omega) d_P_leastWith_5 ?_
  exact hm_iret X hr hlk hh ⟨rfl, rfl⟩ (Nat.le_of_ble_eq_true rfl) (Nat.le_of_ble_eq_true rfl) d_P_leastWith_6

/-- how many of the places below k are in q's set -/
def pt_size (z : Nat → Nat) (q : Nat) : Nat → Nat
  | 0 => 0
  | k + 1 => if z k = z q then pt_size z q k + 1 else pt_size z q k
theorem pt_size_le (z : Nat → Nat) (q : Nat) : ∀ k, pt_size z q k ≤ k := by
  intro k
  induction k with
  | zero => exact Nat.le_refl _
  | succ k ih =>
    show (if z k = z q then pt_size z q k + 1 else pt_size z q k) ≤ k + 1
    by_cases h : z k = z q
    · rw [if_pos h]; omega
    · rw [if_neg h]; omega

/-- int sizeWith(int place) -/
theorem c_P_sizeWith (l : Launch) (g : hl_G) (sz : Nat) (L : List Nat) (f : Nat → va_E) (o ar n a : Nat) (z : Nat → Nat) (ho : o ∈ L) (hfo : f o = .inr (4, [.ref ar])) (har : ar ∈ L) (hfa : f ar = hl_nat g n z) (hn : n ≤ 24) (hz : ∀ p, p < n → z p < n) (ha : a < n) :
    Met l y_P_sizeWith (hq y_P_sizeWith b_P_sizeWith 4 (some .int)) { frames := 0, cells := 0, slots := 0, locals := 0 } (hm_P g [.ref o, .int (nI a)] sz L f) (va_Qi (fun r u => r = nI (pt_size z a n) ∧ u = (L, f)) (hm_B g sz L) (hm_A sz L)) 0 0 (hm_A sz L) := by
  refine hm_ofW (by decide) (Nat.le_of_ble_eq_true rfl) ?_
  intro p e s m below meth c X hr hlk hnm hK hsz hh ls hl
  have hl : lv_has ls 4 [(0, .ref o), (1, .int (nI a))] := hl
  have hza := hz a ha
  have loop : ∀ (t i : Nat) (ls : Array Slot), n + 1 ≤ i + t → i ≤ n → lv_has ls 4 [(3, .int (nI i)), (2, .int (nI (pt_size z a i))), (0, .ref o), (1, .int (nI a))] →
      W p l e { frames := 0, cells := 0, slots := 0, locals := 0 } s m #[.ref o, .int (nI a)] below meth c s.heap [] 0 0 (MQ below (va_Qi (fun r u => r = nI (pt_size z a n) ∧ u = (L, f)) (hm_B g sz L) (hm_A sz L)) #[.ref o, .int (nI a)] s 0 0 (hm_A sz L)) (F0 m 4 ls []) := by
    intro t
    induction t with
    | zero => intros; omega
    | succ t ih =>
      intro i ls hki hin hl
      refine lv_iload_n X.1 X.2.1 d_P_sizeWith_4 rfl (lv_at hl 0 rfl) ?_
      refine lv_aload_n X.1 X.2.1 d_P_sizeWith_5 rfl (lv_at hl 2 rfl) ?_
      refine hl_get X hK hh (ref := "CycleGroups$Partition") i_P (ci := 4) rfl 0 (by decide) w_32 rfl ho hfo rfl d_P_sizeWith_6 ?_
      refine hl_alenI X hK hh har hfa d_P_sizeWith_9 ?_
      refine hn_ige (tgt := 37) X (by omega) (by omega) d_P_sizeWith_10 (by decide) (fun hc => ?_) (fun hc => ?_)
      · have e : i = n := by omega
        subst e
        refine lv_iload_n X.1 X.2.1 d_P_sizeWith_37 rfl (lv_at hl 1 rfl) ?_
        exact hm_iret X hr hlk hh ⟨rfl, rfl⟩ (Nat.le_of_ble_eq_true rfl) (Nat.le_of_ble_eq_true rfl) d_P_sizeWith_38
      · have hzi := hz i (by omega)
        have e1 : pt_size z a (i + 1) = if z i = z a then pt_size z a i + 1 else pt_size z a i := rfl
        refine lv_aload_n X.1 X.2.1 d_P_sizeWith_13 rfl (lv_at hl 2 rfl) ?_
        refine hl_get X hK hh (ref := "CycleGroups$Partition") i_P (ci := 4) rfl 0 (by decide) w_32 rfl ho hfo rfl d_P_sizeWith_14 ?_
        refine lv_iload_n X.1 X.2.1 d_P_sizeWith_17 rfl (lv_at hl 0 rfl) ?_
        refine hl_iald X hK hh har hfa (by omega) (by omega) d_P_sizeWith_18 ?_
        refine lv_aload_n X.1 X.2.1 d_P_sizeWith_19 rfl (lv_at hl 2 rfl) ?_
        refine hl_get X hK hh (ref := "CycleGroups$Partition") i_P (ci := 4) rfl 0 (by decide) w_32 rfl ho hfo rfl d_P_sizeWith_20 ?_
        refine lv_iload_n X.1 X.2.1 d_P_sizeWith_23 rfl (lv_at hl 3 rfl) ?_
        refine hl_iald X hK hh har hfa (by omega) (by omega) d_P_sizeWith_24 ?_
        refine hn_ine (tgt := 31) X (by omega) (by omega) d_P_sizeWith_25 (by decide) (fun hc => ?_) (fun hc => ?_)
        · rw [if_neg hc] at e1
          refine lv_iinc (v := nI (i + 1)) (lv' := [(3, .int (nI (i + 1))), (2, .int (nI (pt_size z a i))), (0, .ref o), (1, .int (nI a))]) X.1 X.2.1 d_P_sizeWith_31 hl (k := 0) rfl (hn_inc _) (by decide) rfl (fun ls hl => ?_)
          refine lv_goto (tgt := 4) X.1 X.2.1 d_P_sizeWith_34 (by decide) ?_
          exact ih (i + 1) ls (by omega) (by omega) (by rw [e1]; exact hl)
        · rw [if_pos hc] at e1
          refine lv_iinc (v := nI ((pt_size z a i) + 1)) (lv' := [(2, .int (nI ((pt_size z a i) + 1))), (3, .int (nI i)), (0, .ref o), (1, .int (nI a))]) X.1 X.2.1 d_P_sizeWith_28 hl (k := 1) rfl (hn_inc _) (by decide) rfl (fun ls hl => ?_)
          refine lv_iinc (v := nI (i + 1)) (lv' := [(3, .int (nI (i + 1))), (2, .int (nI ((pt_size z a i) + 1))), (0, .ref o), (1, .int (nI a))]) X.1 X.2.1 d_P_sizeWith_31 hl (k := 1) rfl (hn_inc _) (by decide) rfl (fun ls hl => ?_)
          refine lv_goto (tgt := 4) X.1 X.2.1 d_P_sizeWith_34 (by decide) ?_
          exact ih (i + 1) ls (by omega) (by omega) (by rw [e1]; exact hl)
  refine lv_iconst (v := nI 0) X.1 X.2.1 d_P_sizeWith_0 (by decide) ?_
  refine lv_istore_n (lv' := [(2, .int (nI 0)), (0, .ref o), (1, .int (nI a))]) X.1 X.2.1 d_P_sizeWith_1 rfl hl (by decide) rfl (fun ls hl => ?_)
  refine lv_iconst (v := nI 0) X.1 X.2.1 d_P_sizeWith_2 (by decide) ?_
  refine lv_istore_n (lv' := [(3, .int (nI 0)), (2, .int (nI 0)), (0, .ref o), (1, .int (nI a))]) X.1 X.2.1 d_P_sizeWith_3 rfl hl (by decide) rfl (fun ls hl => ?_)
  exact loop (n + 1) 0 ls (by omega) (by omega) hl

/-- void separate() -/
theorem c_P_separate (l : Launch) (g : hl_G) (sz : Nat) (L : List Nat) (f : Nat → va_E) (o ar n : Nat) (z : Nat → Nat) (ho : o ∈ L) (hfo : f o = .inr (4, [.ref ar])) (har : ar ∈ L) (hfa : f ar = hl_nat g n z) (hn : n ≤ 24) :
    Met l y_P_separate (hq y_P_separate b_P_separate 1 none) { frames := 1, cells := 0, slots := 0, locals := 30 } (hm_P g [.ref o] sz L f) (va_Qv (fun u => u = (L, va_up f ar (hl_nat g n id))) (hm_B g sz L) (hm_A sz L)) 0 0 (hm_A sz L) := by
  refine hm_ofW (by decide) (Nat.le_of_ble_eq_true rfl) ?_
  intro p e s m below meth c X hr hlk hnm hK hsz hh ls hl
  have hl : lv_has ls 1 [(0, .ref o)] := hl
  refine lv_aload_n X.1 X.2.1 d_P_separate_0 rfl (lv_at hl 0 rfl) ?_
  refine hl_get X hK hh (ref := "CycleGroups$Partition") i_P (ci := 4) rfl 0 (by decide) w_32 rfl ho hfo rfl d_P_separate_1 ?_
  refine hl_callv hh (hl_runSN (k := 1) X hK hh (c_C_leaveAll l g _ L f ar n z har hfa (by omega)) wc_C_leaveAll hK.2.2.2.2 w_1 wi_C_leaveAll (by decide +kernel) rfl rfl ⟨Nat.le_of_ble_eq_true rfl, Nat.le_of_ble_eq_true rfl⟩ rfl rfl (Nat.le_of_ble_eq_true rfl) hl.1 d_P_separate_4 ⟨Nat.le_of_ble_eq_true rfl, Nat.le_of_ble_eq_true rfl⟩) (fun u H locs hp hh => ?_)
  subst hp
  exact hm_vret X hr hlk hh rfl (Nat.le_of_ble_eq_true rfl) (Nat.le_of_ble_eq_true rfl) d_P_separate_7
end
end
section
/-! Partition: joinOrbits, joinImages. -/
section
/-- each of the places below k joined with where m puts it -/
def pt_orb1 (m : Nat → Nat) (z : Nat → Nat) : Nat → Nat → Nat
  | 0 => z
  | k + 1 => pt_join (pt_orb1 m z k) k (m k)
/-- so for the first c moves -/
def pt_orb (mv : Nat → Nat → Nat) (n : Nat) (z : Nat → Nat) : Nat → Nat → Nat
  | 0 => z
  | c + 1 => pt_orb1 (mv c) (pt_orb mv n z c) n

/-- a pool's grid of rows: what the rows hold -/
def hl_rows (g : hl_G) (L : List Nat) (f : Nat → va_E) (n : Nat) (zM : Nat → Option Nat) (mR : Nat → Nat) (mv : Nat → Nat → Nat) (c : Nat) : Prop :=
  ∀ i, i < c → zM i = some (mR i) ∧ mR i ∈ L ∧ f (mR i) = hl_nat g n (mv i)

/-- void joinOrbits(int[][] moves, int count) -/
theorem c_P_joinOrbits (l : Launch) (g : hl_G) (sz : Nat) (L : List Nat) (f : Nat → va_E) (o ar n mO cn : Nat) (z : Nat → Nat) (zM : Nat → Option Nat) (mR : Nat → Nat) (mv : Nat → Nat → Nat)
    (ho : o ∈ L) (hfo : f o = .inr (4, [.ref ar])) (har : ar ∈ L) (hfa : f ar = hl_nat g n z) (hoa : o ≠ ar) (hn : n ≤ 24) (hz : ∀ p, p < n → z p < n)
    (hmO : mO ∈ L) (hfm : f mO = hl_grd g 10 zM) (hcn : cn ≤ 10) (hrows : hl_rows g L f n zM mR mv cn) (hma : mO ≠ ar) (hra : ∀ i, i < cn → mR i ≠ ar) (hmv : ∀ i, i < cn → ∀ p, p < n → mv i p < n) :
    Met l y_P_joinOrbits (hq y_P_joinOrbits b_P_joinOrbits 5 none) { frames := 2, cells := 0, slots := 0, locals := 50 } (hm_P g [.ref o, .ref mO, .int (nI cn)] sz L f) (va_Qv (fun u => u = (L, va_up f ar (hl_nat g n (pt_orb mv n z cn)))) (hm_B g sz L) (hm_A sz L)) 0 0 (hm_A sz L) := by
  refine hm_ofW (by decide) (Nat.le_of_ble_eq_true rfl) ?_
  intro p e s m below meth c X hr hlk hnm hK hsz hh ls hl
  have hl : lv_has ls 5 [(0, .ref o), (1, .ref mO), (2, .int (nI cn))] := hl
  have loop : ∀ (t i : Nat) (y : Nat → Nat) (H : Heap) (locs : List Loc) (ls : Array Slot), cn + 1 ≤ i + t → i ≤ cn → y = pt_orb mv n z i → (∀ p, p < n → y p < n) →
      hl_H g (hm_A sz L) s.heap L (va_up f ar (hl_nat g n y)) H locs → lv_has ls 5 [(3, .int (nI i)), (0, .ref o), (1, .ref mO), (2, .int (nI cn))] →
      W p l e { frames := 2, cells := 0, slots := 0, locals := 50 } s m #[.ref o, .ref mO, .int (nI cn)] below meth c H locs 0 0 (MQ below (va_Qv (fun u => u = (L, va_up f ar (hl_nat g n (pt_orb mv n z cn)))) (hm_B g sz L) (hm_A sz L)) #[.ref o, .ref mO, .int (nI cn)] s 0 0 (hm_A sz L)) (F0 m 2 ls []) := by
    intro t
    induction t with
    | zero => intros; omega
    | succ t ih =>
      intro i y H locs ls hki hin hy hyn hh hl
      refine lv_iload_n X.1 X.2.1 d_P_joinOrbits_2 rfl (lv_at hl 0 rfl) ?_
      refine lv_iload_n X.1 X.2.1 d_P_joinOrbits_3 rfl (lv_at hl 3 rfl) ?_
      refine hn_ige (tgt := 45) X (by omega) (by omega) d_P_joinOrbits_4 (by decide) (fun hc => ?_) (fun hc => ?_)
      · have e : i = cn := by omega
        subst e
        subst hy
        exact hm_vret X hr hlk hh rfl (Nat.le_of_ble_eq_true rfl) (Nat.le_of_ble_eq_true rfl) d_P_joinOrbits_45
      · have hic := hc
        obtain ⟨hM, hRL, hRf⟩ := hrows i hic
        have inner : ∀ (t2 q : Nat) (x : Nat → Nat) (H : Heap) (locs : List Loc) (ls : Array Slot), n + 1 ≤ q + t2 → q ≤ n → x = pt_orb1 (mv i) y q → (∀ p, p < n → x p < n) →
            hl_H g (hm_A sz L) s.heap L (va_up f ar (hl_nat g n x)) H locs → lv_has ls 5 [(4, .int (nI q)), (3, .int (nI i)), (0, .ref o), (1, .ref mO), (2, .int (nI cn))] →
            W p l e { frames := 2, cells := 0, slots := 0, locals := 50 } s m #[.ref o, .ref mO, .int (nI cn)] below meth c H locs 0 0 (MQ below (va_Qv (fun u => u = (L, va_up f ar (hl_nat g n (pt_orb mv n z cn)))) (hm_B g sz L) (hm_A sz L)) #[.ref o, .ref mO, .int (nI cn)] s 0 0 (hm_A sz L)) (F0 m 10 ls []) := by
          intro t2
          induction t2 with
          | zero => intros; omega
          | succ t2 ih2 =>
            intro q x H locs ls hkq hqn hx hxn hh hl
            refine lv_iload X.1 X.2.1 d_P_joinOrbits_10 (lv_at hl 0 rfl) ?_
            refine lv_aload_n X.1 X.2.1 d_P_joinOrbits_12 rfl (lv_at hl 2 rfl) ?_
            refine hl_get X hK hh (ref := "CycleGroups$Partition") i_P (ci := 4) rfl 0 (by decide) w_32 rfl ho ((va_up_ne _ _ hoa).trans hfo) rfl d_P_joinOrbits_13 ?_
            refine hl_alenI X hK hh har (va_up_self ..) d_P_joinOrbits_16 ?_
            refine hn_ige (tgt := 39) X (by omega) (by omega) d_P_joinOrbits_17 (by decide) (fun hc => ?_) (fun hc => ?_)
            · have e : q = n := by omega
              subst e
              refine lv_iinc (v := nI (i + 1)) (lv' := [(3, .int (nI (i + 1))), (4, .int (nI q)), (0, .ref o), (1, .ref mO), (2, .int (nI cn))]) X.1 X.2.1 d_P_joinOrbits_39 hl (k := 1) rfl (hn_inc _) (by decide) rfl (fun ls hl => ?_)
              refine lv_goto (tgt := 2) X.1 X.2.1 d_P_joinOrbits_42 (by decide) ?_
              exact ih (i + 1) x H locs ls (by omega) (by omega) (by rw [hx, hy]; rfl) hxn hh (lv_sub hl [0, 2, 3, 4] rfl)
            · have hcq : q < n := hc
              have hmq := hmv i hic q hcq
              refine lv_aload_n X.1 X.2.1 d_P_joinOrbits_20 rfl (lv_at hl 2 rfl) ?_
              refine lv_iload X.1 X.2.1 d_P_joinOrbits_21 (lv_at hl 0 rfl) ?_
              refine lv_aload_n X.1 X.2.1 d_P_joinOrbits_23 rfl (lv_at hl 3 rfl) ?_
              refine lv_iload_n X.1 X.2.1 d_P_joinOrbits_24 rfl (lv_at hl 1 rfl) ?_
              refine hl_aaldG X hK hh hmO ((va_up_ne _ _ hma).trans hfm) (by omega) (by omega) hM d_P_joinOrbits_25 ?_
              refine lv_iload X.1 X.2.1 d_P_joinOrbits_26 (lv_at hl 0 rfl) ?_
              refine hl_iald X hK hh hRL ((va_up_ne _ _ (hra i hic)).trans hRf) (by omega) (by omega) d_P_joinOrbits_28 ?_
              refine hl_calli hh (hl_runV (k := 2) X hK hh (c_P_join l g _ L _ o ar n q (mv i q) x ho ((va_up_ne _ _ hoa).trans hfo) har (va_up_self ..) hoa hn hxn hcq hmq) wc_P_join w_255 w_3 wi_P_join ws_P_join (by decide +kernel) rfl rfl ⟨Nat.le_of_ble_eq_true rfl, Nat.le_of_ble_eq_true rfl⟩ ho ((va_up_ne _ _ hoa).trans hfo) rfl rfl rfl rfl (Nat.le_of_ble_eq_true rfl) hl.1 d_P_joinOrbits_29 ⟨Nat.le_of_ble_eq_true rfl, Nat.le_of_ble_eq_true rfl⟩) (fun r u H locs hp hh => ?_)
              obtain ⟨_, rfl⟩ := hp
              refine lv_pop X.1 X.2.1 d_P_joinOrbits_32 rfl ?_
              refine lv_iinc (v := nI (q + 1)) (lv' := [(4, .int (nI (q + 1))), (3, .int (nI i)), (0, .ref o), (1, .ref mO), (2, .int (nI cn))]) X.1 X.2.1 d_P_joinOrbits_33 hl (k := 0) rfl (hn_inc _) (by decide) rfl (fun ls hl => ?_)
              refine lv_goto (tgt := 10) X.1 X.2.1 d_P_joinOrbits_36 (by decide) ?_
              have hh : hl_H g (hm_A sz L) s.heap L (va_up (va_up f ar (hl_nat g n x)) ar (hl_nat g n (pt_join x q (mv i q)))) H locs := hh
              rw [hr_uu] at hh
              exact ih2 (q + 1) (pt_join x q (mv i q)) H locs ls (by omega) (by omega) (by rw [hx]; rfl) (pt_join_lt hxn hcq hmq) hh hl
        refine lv_iconst (v := nI 0) X.1 X.2.1 d_P_joinOrbits_7 (by decide) ?_
        refine lv_istore (lv' := [(4, .int (nI 0)), (3, .int (nI i)), (0, .ref o), (1, .ref mO), (2, .int (nI cn))]) X.1 X.2.1 d_P_joinOrbits_8 hl (by decide) rfl (fun ls hl => ?_)
        exact inner (n + 1) 0 y H locs ls (by omega) (by omega) rfl hyn hh hl
  refine lv_iconst (v := nI 0) X.1 X.2.1 d_P_joinOrbits_0 (by decide) ?_
  refine lv_istore_n (lv' := [(3, .int (nI 0)), (0, .ref o), (1, .ref mO), (2, .int (nI cn))]) X.1 X.2.1 d_P_joinOrbits_1 rfl hl (by decide) rfl (fun ls hl => ?_)
  exact loop (cn + 1) 0 z s.heap [] ls (by omega) (by omega) rfl hz (hl_same hfa hh) hl

/-- the images by m of each place below k and of its set's least, joined; and whether that joined two sets -/
def pt_im1 (m : Nat → Nat) (z : Nat → Nat) : Nat → (Nat → Nat) × Bool
  | 0 => (z, false)
  | k + 1 => (pt_join (pt_im1 m z k).1 (m k) (m ((pt_im1 m z k).1 k)), (pt_im1 m z k).2 || decide (¬ (pt_im1 m z k).1 (m k) = (pt_im1 m z k).1 (m ((pt_im1 m z k).1 k))))

def hb (b : Bool) : Int32 := if b then nI 1 else nI 0
theorem hb_or (a b : Bool) : hb a ||| hb b = hb (a || b) := by cases a <;> cases b <;> decide
theorem hb_01 (b : Bool) : hb b = 0 ∨ hb b = 1 := by cases b <;> decide

/-- private boolean joinImagesOnce(int[] move) -/
theorem c_P_joinImagesOnce (l : Launch) (g : hl_G) (sz : Nat) (L : List Nat) (f : Nat → va_E) (o ar n mR : Nat) (z mv : Nat → Nat)
    (ho : o ∈ L) (hfo : f o = .inr (4, [.ref ar])) (har : ar ∈ L) (hfa : f ar = hl_nat g n z) (hoa : o ≠ ar) (hn : n ≤ 24) (hz : ∀ p, p < n → z p < n)
    (hRL : mR ∈ L) (hRf : f mR = hl_nat g n mv) (hra : mR ≠ ar) (hmv : ∀ p, p < n → mv p < n) :
    Met l y_P_joinImagesOnce (hq y_P_joinImagesOnce b_P_joinImagesOnce 4 (some .boolean)) { frames := 2, cells := 0, slots := 0, locals := 50 } (hm_P g [.ref o, .ref mR] sz L f) (va_Qi (fun r u => r = hb (pt_im1 mv z n).2 ∧ u = (L, va_up f ar (hl_nat g n (pt_im1 mv z n).1))) (hm_B g sz L) (hm_A sz L)) 0 0 (hm_A sz L) := by
  refine hm_ofW (by decide) (Nat.le_of_ble_eq_true rfl) ?_
  intro p e s m below meth c X hr hlk hnm hK hsz hh ls hl
  have hl : lv_has ls 4 [(0, .ref o), (1, .ref mR)] := hl
  have loop : ∀ (t i : Nat) (y : Nat → Nat) (fl : Bool) (H : Heap) (locs : List Loc) (ls : Array Slot), n + 1 ≤ i + t → i ≤ n → (y, fl) = pt_im1 mv z i → (∀ p, p < n → y p < n) →
      hl_H g (hm_A sz L) s.heap L (va_up f ar (hl_nat g n y)) H locs → lv_has ls 4 [(3, .int (nI i)), (2, .int (hb fl)), (0, .ref o), (1, .ref mR)] →
      W p l e { frames := 2, cells := 0, slots := 0, locals := 50 } s m #[.ref o, .ref mR] below meth c H locs 0 0 (MQ below (va_Qi (fun r u => r = hb (pt_im1 mv z n).2 ∧ u = (L, va_up f ar (hl_nat g n (pt_im1 mv z n).1))) (hm_B g sz L) (hm_A sz L)) #[.ref o, .ref mR] s 0 0 (hm_A sz L)) (F0 m 4 ls []) := by
    intro t
    induction t with
    | zero => intros; omega
    | succ t ih =>
      intro i y fl H locs ls hki hin hy hyn hh hl
      refine lv_iload_n X.1 X.2.1 d_P_joinImagesOnce_4 rfl (lv_at hl 0 rfl) ?_
      refine lv_aload_n X.1 X.2.1 d_P_joinImagesOnce_5 rfl (lv_at hl 2 rfl) ?_
      refine hl_get X hK hh (ref := "CycleGroups$Partition") i_P (ci := 4) rfl 0 (by decide) w_32 rfl ho ((va_up_ne _ _ hoa).trans hfo) rfl d_P_joinImagesOnce_6 ?_
      refine hl_alenI X hK hh har (va_up_self ..) d_P_joinImagesOnce_9 ?_
      refine hn_ige (tgt := 37) X (by omega) (by omega) d_P_joinImagesOnce_10 (by decide) (fun hc => ?_) (fun hc => ?_)
      · have e : i = n := by omega
        subst e
        refine lv_iload_n X.1 X.2.1 d_P_joinImagesOnce_37 rfl (lv_at hl 1 rfl) ?_
        exact hm_zret X hr hlk hh (hb_01 fl) ⟨by rw [← hy], by rw [← hy]⟩ (Nat.le_of_ble_eq_true rfl) (Nat.le_of_ble_eq_true rfl) d_P_joinImagesOnce_38
      · have h1 := hmv i hc
        have h2 := hyn i hc
        have h3 := hmv (y i) h2
        refine lv_iload_n X.1 X.2.1 d_P_joinImagesOnce_13 rfl (lv_at hl 1 rfl) ?_
        refine lv_aload_n X.1 X.2.1 d_P_joinImagesOnce_14 rfl (lv_at hl 2 rfl) ?_
        refine lv_aload_n X.1 X.2.1 d_P_joinImagesOnce_15 rfl (lv_at hl 3 rfl) ?_
        refine lv_iload_n X.1 X.2.1 d_P_joinImagesOnce_16 rfl (lv_at hl 0 rfl) ?_
        refine hl_iald X hK hh hRL ((va_up_ne _ _ hra).trans hRf) (by omega) (by omega) d_P_joinImagesOnce_17 ?_
        refine lv_aload_n X.1 X.2.1 d_P_joinImagesOnce_18 rfl (lv_at hl 3 rfl) ?_
        refine lv_aload_n X.1 X.2.1 d_P_joinImagesOnce_19 rfl (lv_at hl 2 rfl) ?_
        refine hl_get X hK hh (ref := "CycleGroups$Partition") i_P (ci := 4) rfl 0 (by decide) w_32 rfl ho ((va_up_ne _ _ hoa).trans hfo) rfl d_P_joinImagesOnce_20 ?_
        refine lv_iload_n X.1 X.2.1 d_P_joinImagesOnce_23 rfl (lv_at hl 0 rfl) ?_
        refine hl_iald X hK hh har (va_up_self ..) (by omega) (by omega) d_P_joinImagesOnce_24 ?_
        refine hl_iald X hK hh hRL ((va_up_ne _ _ hra).trans hRf) (by omega) (by omega) d_P_joinImagesOnce_25 ?_
        refine hl_calli hh (hl_runV (k := 2) X hK hh (c_P_join l g _ L _ o ar n (mv i) (mv (y i)) y ho ((va_up_ne _ _ hoa).trans hfo) har (va_up_self ..) hoa hn hyn h1 h3) wc_P_join w_255 w_3 wi_P_join ws_P_join (by decide +kernel) rfl rfl ⟨Nat.le_of_ble_eq_true rfl, Nat.le_of_ble_eq_true rfl⟩ ho ((va_up_ne _ _ hoa).trans hfo) rfl rfl rfl rfl (Nat.le_of_ble_eq_true rfl) hl.1 d_P_joinImagesOnce_26 ⟨Nat.le_of_ble_eq_true rfl, Nat.le_of_ble_eq_true rfl⟩) (fun r u H locs hp hh => ?_)
        obtain ⟨rfl, rfl⟩ := hp
        have hh : hl_H g (hm_A sz L) s.heap L (va_up (va_up f ar (hl_nat g n y)) ar (hl_nat g n (pt_join y (mv i) (mv (y i))))) H locs := hh
        rw [hr_uu] at hh
        refine lv_ior X.1 X.2.1 d_P_joinImagesOnce_29 ?_
        refine lv_istore_n (lv' := [(2, .int ((hb fl) ||| (if y (mv i) = y (mv (y i)) then nI 0 else nI 1))), (3, .int (nI i)), (0, .ref o), (1, .ref mR)]) X.1 X.2.1 d_P_joinImagesOnce_30 rfl hl (by decide) rfl (fun ls hl => ?_)
        refine lv_iinc (v := nI (i + 1)) (lv' := [(3, .int (nI (i + 1))), (2, .int ((hb fl) ||| (if y (mv i) = y (mv (y i)) then nI 0 else nI 1))), (0, .ref o), (1, .ref mR)]) X.1 X.2.1 d_P_joinImagesOnce_31 hl (k := 1) rfl (hn_inc _) (by decide) rfl (fun ls hl => ?_)
        refine lv_goto (tgt := 4) X.1 X.2.1 d_P_joinImagesOnce_34 (by decide) ?_
        have er : (hb fl ||| (if y (mv i) = y (mv (y i)) then nI 0 else nI 1)) = hb (fl || decide (¬ y (mv i) = y (mv (y i)))) := by
          rw [← hb_or]
          by_cases h : y (mv i) = y (mv (y i))
          · rw [if_pos h, decide_eq_false (fun h2 => h2 h)]; rfl
          · rw [if_neg h, decide_eq_true h]; rfl
        rw [er] at hl
        refine ih (i + 1) (pt_join y (mv i) (mv (y i))) (fl || decide (¬ y (mv i) = y (mv (y i)))) H locs ls (by omega) (by omega) ?_ (pt_join_lt hyn h1 h3) hh hl
        show _ = (pt_join (pt_im1 mv z i).1 (mv i) (mv ((pt_im1 mv z i).1 i)), _)
        rw [← hy]
  refine lv_iconst (v := nI 0) X.1 X.2.1 d_P_joinImagesOnce_0 (by decide) ?_
  refine lv_istore_n (lv' := [(2, .int (nI 0)), (0, .ref o), (1, .ref mR)]) X.1 X.2.1 d_P_joinImagesOnce_1 rfl hl (by decide) rfl (fun ls hl => ?_)
  refine lv_iconst (v := nI 0) X.1 X.2.1 d_P_joinImagesOnce_2 (by decide) ?_
  refine lv_istore_n (lv' := [(3, .int (nI 0)), (2, .int (nI 0)), (0, .ref o), (1, .ref mR)]) X.1 X.2.1 d_P_joinImagesOnce_3 rfl hl (by decide) rfl (fun ls hl => ?_)
  exact loop (n + 1) 0 z false s.heap [] ls (by omega) (by omega) rfl hz (hl_same hfa hh) hl

/-- one round over the first c moves: the sets, and whether any were joined -/
def pt_rnd (mv : Nat → Nat → Nat) (n : Nat) (z : Nat → Nat) : Nat → (Nat → Nat) × Bool
  | 0 => (z, false)
  | c + 1 => ((pt_im1 (mv c) (pt_rnd mv n z c).1 n).1, (pt_rnd mv n z c).2 || (pt_im1 (mv c) (pt_rnd mv n z c).1 n).2)
/-- rounds until nothing is joined, at most k -/
def pt_blk (mv : Nat → Nat → Nat) (n c : Nat) : Nat → (Nat → Nat) → Nat → Nat
  | 0, z => z
  | k + 1, z => if (pt_rnd mv n z c).2 then pt_blk mv n c k (pt_rnd mv n z c).1 else (pt_rnd mv n z c).1
theorem pt_im1_lt {m z : Nat → Nat} {n : Nat} (hz : ∀ p, p < n → z p < n) (hm : ∀ p, p < n → m p < n) : ∀ k, k ≤ n → ∀ p, p < n → (pt_im1 m z k).1 p < n := by
  intro k
  induction k with
  | zero => intro _; exact hz
  | succ k ih =>
    intro hk
    have h1 := ih (by omega)
    exact pt_join_lt h1 (hm k (by omega)) (hm _ (h1 k (by omega)))

/-- void joinImages(int[][] moves, int count) -/
theorem c_P_joinImages (l : Launch) (g : hl_G) (sz : Nat) (L : List Nat) (f : Nat → va_E) (o ar n mO cn : Nat) (z : Nat → Nat) (zM : Nat → Option Nat) (mR : Nat → Nat) (mv : Nat → Nat → Nat)
    (ho : o ∈ L) (hfo : f o = .inr (4, [.ref ar])) (har : ar ∈ L) (hfa : f ar = hl_nat g n z) (hoa : o ≠ ar) (hn : n ≤ 24) (hz : ∀ p, p < n → z p < n)
    (hmO : mO ∈ L) (hfm : f mO = hl_grd g 10 zM) (hcn : cn ≤ 10) (hrows : hl_rows g L f n zM mR mv cn) (hma : mO ≠ ar) (hra : ∀ i, i < cn → mR i ≠ ar) (hmv : ∀ i, i < cn → ∀ p, p < n → mv i p < n) :
    Met l y_P_joinImages (hq y_P_joinImages b_P_joinImages 6 none) { frames := 3, cells := 0, slots := 0, locals := 80 } (hm_P g [.ref o, .ref mO, .int (nI cn)] sz L f) (va_Qv (fun u => u = (L, va_up f ar (hl_nat g n (pt_blk mv n cn n z)))) (hm_B g sz L) (hm_A sz L)) 0 0 (hm_A sz L) := by
  refine hm_ofW (by decide) (Nat.le_of_ble_eq_true rfl) ?_
  intro p e s m below meth c X hr hlk hnm hK hsz hh ls hl
  have hl : lv_has ls 6 [(0, .ref o), (1, .ref mO), (2, .int (nI cn))] := hl
  have loop : ∀ (t i : Nat) (y : Nat → Nat) (fl : Bool) (H : Heap) (locs : List Loc) (ls : Array Slot), n = i + t → (if fl then pt_blk mv n cn t y else y) = pt_blk mv n cn n z → (∀ p, p < n → y p < n) →
      hl_H g (hm_A sz L) s.heap L (va_up f ar (hl_nat g n y)) H locs → lv_has ls 6 [(4, .int (nI i)), (3, .int (hb fl)), (0, .ref o), (1, .ref mO), (2, .int (nI cn))] →
      W p l e { frames := 3, cells := 0, slots := 0, locals := 80 } s m #[.ref o, .ref mO, .int (nI cn)] below meth c H locs 0 0 (MQ below (va_Qv (fun u => u = (L, va_up f ar (hl_nat g n (pt_blk mv n cn n z)))) (hm_B g sz L) (hm_A sz L)) #[.ref o, .ref mO, .int (nI cn)] s 0 0 (hm_A sz L)) (F0 m 5 ls []) := by
    intro t
    induction t with
    | zero =>
      intro i y fl H locs ls hki hy hyn hh hl
      have hy : y = pt_blk mv n cn n z := by
        rw [← hy]
        cases fl <;> rfl
      subst hy
      refine lv_iload_n X.1 X.2.1 d_P_joinImages_5 rfl (lv_at hl 1 rfl) ?_
      refine lv_if_eq (tgt := 53) X.1 X.2.1 d_P_joinImages_6 (by decide) (fun hc => ?_) (fun hc => ?_)
      · skip
        exact hm_vret X hr hlk hh rfl (Nat.le_of_ble_eq_true rfl) (Nat.le_of_ble_eq_true rfl) d_P_joinImages_53
      · skip
        refine lv_iload X.1 X.2.1 d_P_joinImages_9 (lv_at hl 0 rfl) ?_
        refine lv_aload_n X.1 X.2.1 d_P_joinImages_11 rfl (lv_at hl 2 rfl) ?_
        refine hl_get X hK hh (ref := "CycleGroups$Partition") i_P (ci := 4) rfl 0 (by decide) w_32 rfl ho ((va_up_ne _ _ hoa).trans hfo) rfl d_P_joinImages_12 ?_
        refine hl_alenI X hK hh har (va_up_self ..) d_P_joinImages_15 ?_
        refine hn_ige (tgt := 53) X (by omega) (by omega) d_P_joinImages_16 (by decide) (fun hc => ?_) (fun hc => ?_)
        · skip
          exact hm_vret X hr hlk hh rfl (Nat.le_of_ble_eq_true rfl) (Nat.le_of_ble_eq_true rfl) d_P_joinImages_53
        · omega
    | succ t ih =>
      intro i y fl H locs ls hki hy hyn hh hl
      refine lv_iload_n X.1 X.2.1 d_P_joinImages_5 rfl (lv_at hl 1 rfl) ?_
      refine lv_if_eq (tgt := 53) X.1 X.2.1 d_P_joinImages_6 (by decide) (fun hc => ?_) (fun hc => ?_)
      · have hfl : fl = false := by
          cases fl
          · rfl
          · exact absurd hc (by decide)
        subst hfl
        have hy : y = pt_blk mv n cn n z := hy
        subst hy
        exact hm_vret X hr hlk hh rfl (Nat.le_of_ble_eq_true rfl) (Nat.le_of_ble_eq_true rfl) d_P_joinImages_53
      · have hfl : fl = true := by
          cases fl
          · exact absurd (show hb false = 0 by decide) hc
          · rfl
        subst hfl
        refine lv_iload X.1 X.2.1 d_P_joinImages_9 (lv_at hl 0 rfl) ?_
        refine lv_aload_n X.1 X.2.1 d_P_joinImages_11 rfl (lv_at hl 2 rfl) ?_
        refine hl_get X hK hh (ref := "CycleGroups$Partition") i_P (ci := 4) rfl 0 (by decide) w_32 rfl ho ((va_up_ne _ _ hoa).trans hfo) rfl d_P_joinImages_12 ?_
        refine hl_alenI X hK hh har (va_up_self ..) d_P_joinImages_15 ?_
        refine hn_ige (tgt := 53) X (by omega) (by omega) d_P_joinImages_16 (by decide) (fun hc => ?_) (fun hc => ?_)
        · omega
        · have hy : pt_blk mv n cn (t + 1) y = pt_blk mv n cn n z := hy
          have inner : ∀ (t2 q : Nat) (x : Nat → Nat) (fl : Bool) (H : Heap) (locs : List Loc) (ls : Array Slot), cn + 1 ≤ q + t2 → q ≤ cn → (x, fl) = pt_rnd mv n y q → (∀ p, p < n → x p < n) →
              hl_H g (hm_A sz L) s.heap L (va_up f ar (hl_nat g n x)) H locs → lv_has ls 6 [(5, .int (nI q)), (3, .int (hb fl)), (4, .int (nI i)), (0, .ref o), (1, .ref mO), (2, .int (nI cn))] →
              W p l e { frames := 3, cells := 0, slots := 0, locals := 80 } s m #[.ref o, .ref mO, .int (nI cn)] below meth c H locs 0 0 (MQ below (va_Qv (fun u => u = (L, va_up f ar (hl_nat g n (pt_blk mv n cn n z)))) (hm_B g sz L) (hm_A sz L)) #[.ref o, .ref mO, .int (nI cn)] s 0 0 (hm_A sz L)) (F0 m 24 ls []) := by
            intro t2
            induction t2 with
            | zero => intros; omega
            | succ t2 ih2 =>
              intro q x fl H locs ls hkq hqn hx hxn hh hl
              refine lv_iload X.1 X.2.1 d_P_joinImages_24 (lv_at hl 0 rfl) ?_
              refine lv_iload_n X.1 X.2.1 d_P_joinImages_26 rfl (lv_at hl 5 rfl) ?_
              refine hn_ige (tgt := 47) X (by omega) (by omega) d_P_joinImages_27 (by decide) (fun hc => ?_) (fun hc => ?_)
              · have e : cn = q := by omega
                subst e
                refine lv_iinc (v := nI (i + 1)) (lv' := [(4, .int (nI (i + 1))), (5, .int (nI cn)), (3, .int (hb fl)), (0, .ref o), (1, .ref mO), (2, .int (nI cn))]) X.1 X.2.1 d_P_joinImages_47 hl (k := 2) rfl (hn_inc _) (by decide) rfl (fun ls hl => ?_)
                refine lv_goto (tgt := 5) X.1 X.2.1 d_P_joinImages_50 (by decide) ?_
                refine ih (i + 1) x fl H locs ls (by omega) ?_ hxn hh (lv_sub hl [0, 2, 3, 4, 5] rfl)
                rw [← hy]
                show _ = if (pt_rnd mv n y cn).2 then pt_blk mv n cn t (pt_rnd mv n y cn).1 else (pt_rnd mv n y cn).1
                rw [← hx]
              · have hcq : q < cn := hc
                obtain ⟨hM, hRL, hRf⟩ := hrows q hcq
                refine lv_iload_n X.1 X.2.1 d_P_joinImages_30 rfl (lv_at hl 1 rfl) ?_
                refine lv_aload_n X.1 X.2.1 d_P_joinImages_31 rfl (lv_at hl 3 rfl) ?_
                refine lv_aload_n X.1 X.2.1 d_P_joinImages_32 rfl (lv_at hl 4 rfl) ?_
                refine lv_iload X.1 X.2.1 d_P_joinImages_33 (lv_at hl 0 rfl) ?_
                refine hl_aaldG X hK hh hmO ((va_up_ne _ _ hma).trans hfm) (by omega) (by omega) hM d_P_joinImages_35 ?_
                refine hl_calli hh (hl_runV (k := 1) X hK hh (c_P_joinImagesOnce l g _ L _ o ar n (mR q) x (mv q) ho ((va_up_ne _ _ hoa).trans hfo) har (va_up_self ..) hoa hn hxn hRL ((va_up_ne _ _ (hra q hcq)).trans hRf) (hra q hcq) (hmv q hcq)) wc_P_joinImagesOnce w_286 w_3 wi_P_joinImagesOnce ws_P_joinImagesOnce (by decide +kernel) rfl rfl ⟨Nat.le_of_ble_eq_true rfl, Nat.le_of_ble_eq_true rfl⟩ ho ((va_up_ne _ _ hoa).trans hfo) rfl rfl rfl rfl (Nat.le_of_ble_eq_true rfl) hl.1 d_P_joinImages_36 ⟨Nat.le_of_ble_eq_true rfl, Nat.le_of_ble_eq_true rfl⟩) (fun r u H locs hp hh => ?_)
                obtain ⟨rfl, rfl⟩ := hp
                have hh : hl_H g (hm_A sz L) s.heap L (va_up (va_up f ar (hl_nat g n x)) ar (hl_nat g n (pt_im1 (mv q) x n).1)) H locs := hh
                rw [hr_uu] at hh
                refine lv_ior X.1 X.2.1 d_P_joinImages_39 ?_
                refine lv_istore_n (lv' := [(3, .int ((hb fl) ||| (hb (pt_im1 (mv q) x n).2))), (5, .int (nI q)), (4, .int (nI i)), (0, .ref o), (1, .ref mO), (2, .int (nI cn))]) X.1 X.2.1 d_P_joinImages_40 rfl hl (by decide) rfl (fun ls hl => ?_)
                refine lv_iinc (v := nI (q + 1)) (lv' := [(5, .int (nI (q + 1))), (3, .int ((hb fl) ||| (hb (pt_im1 (mv q) x n).2))), (4, .int (nI i)), (0, .ref o), (1, .ref mO), (2, .int (nI cn))]) X.1 X.2.1 d_P_joinImages_41 hl (k := 1) rfl (hn_inc _) (by decide) rfl (fun ls hl => ?_)
                refine lv_goto (tgt := 24) X.1 X.2.1 d_P_joinImages_44 (by decide) ?_
                rw [hb_or] at hl
                refine ih2 (q + 1) (pt_im1 (mv q) x n).1 (fl || (pt_im1 (mv q) x n).2) H locs ls (by omega) (by omega) ?_ (pt_im1_lt hxn (hmv q hcq) n (Nat.le_refl n)) hh hl
                show _ = ((pt_im1 (mv q) (pt_rnd mv n y q).1 n).1, (pt_rnd mv n y q).2 || (pt_im1 (mv q) (pt_rnd mv n y q).1 n).2)
                rw [← hx]
          refine lv_iconst (v := nI 0) X.1 X.2.1 d_P_joinImages_19 (by decide) ?_
          refine lv_istore_n (lv' := [(3, .int (nI 0)), (4, .int (nI i)), (0, .ref o), (1, .ref mO), (2, .int (nI cn))]) X.1 X.2.1 d_P_joinImages_20 rfl hl (by decide) rfl (fun ls hl => ?_)
          refine lv_iconst (v := nI 0) X.1 X.2.1 d_P_joinImages_21 (by decide) ?_
          refine lv_istore (lv' := [(5, .int (nI 0)), (3, .int (nI 0)), (4, .int (nI i)), (0, .ref o), (1, .ref mO), (2, .int (nI cn))]) X.1 X.2.1 d_P_joinImages_22 hl (by decide) rfl (fun ls hl => ?_)
          exact inner (cn + 1) 0 y false H locs ls (by omega) (by omega) rfl hyn hh hl
  refine lv_iconst (v := nI 1) X.1 X.2.1 d_P_joinImages_0 (by decide) ?_
  refine lv_istore_n (lv' := [(3, .int (nI 1)), (0, .ref o), (1, .ref mO), (2, .int (nI cn))]) X.1 X.2.1 d_P_joinImages_1 rfl hl (by decide) rfl (fun ls hl => ?_)
  refine lv_iconst (v := nI 0) X.1 X.2.1 d_P_joinImages_2 (by decide) ?_
  refine lv_istore (lv' := [(4, .int (nI 0)), (3, .int (nI 1)), (0, .ref o), (1, .ref mO), (2, .int (nI cn))]) X.1 X.2.1 d_P_joinImages_3 hl (by decide) rfl (fun ls hl => ?_)
  exact loop n 0 z true s.heap [] ls (by omega) rfl hz (hl_same hfa hh) hl
end
end
section
/-! The class Link: its cells, and what its methods do, but for the constructor. -/
section
/-- a place that may be wanting, as an int -/
def oI (x : Option Nat) : Int32 := match x with
  | none => -1
  | some k => nI k

/-- the cells of link i: T gives each address a number of its own -/
def lk_tag (i t : Nat) : Prop := ∃ k j, k < 8 ∧ j < 64 ∧ t = 100 + 1536 * k + 64 * i + j

abbrev lk_most (n i : Nat) : Nat := (n - i) * 3 / 2
/-- which cells of kind k link i has -/
def lk_j (n i k j : Nat) : Prop := if k = 2 then j < lk_most n i else if k = 7 then j < n - i else j = 0
theorem lk_j64 {n i k j : Nat} (hn : n ≤ 24) (h : lk_j n i k j) : j < 64 := by
  unfold lk_j at h
  by_cases h2 : k = 2
  · rw [if_pos h2] at h; unfold lk_most at h; omega
  · rw [if_neg h2] at h
    by_cases h7 : k = 7
    · rw [if_pos h7] at h; omega
    · rw [if_neg h7] at h; omega
def lk_T (T : Nat → Nat) (ad : Nat → Nat → Nat → Nat) (n i : Nat) : Prop := ∀ k j, k < 8 → lk_j n i k j → T (ad k i j) = 100 + 1536 * k + 64 * i + j

/-- what the cells of link i hold: gn rows G, their pairs pr, sn places sp, their index ix, the ways back wb -/
def lk_P (g : hl_G) (L : List Nat) (f : Nat → va_E) (ad : Nat → Nat → Nat → Nat) (n i gn : Nat) (G : Nat → Nat → Nat) (pr : Nat → Nat) (sn : Nat) (sp : Nat → Nat) (ix : Nat → Option Nat) (wb : Nat → Nat → Nat) : Prop :=
  (ad 0 i 0 ∈ L ∧ f (ad 0 i 0) = .inr (3, [.ref (ad 1 i 0), .int (nI gn), .ref (ad 3 i 0), .ref (ad 4 i 0), .int (nI sn), .ref (ad 5 i 0), .ref (ad 6 i 0)])) ∧
  (ad 1 i 0 ∈ L ∧ f (ad 1 i 0) = hl_grd g (lk_most n i) (fun j => if j < lk_most n i then some (ad 2 i j) else none)) ∧
  (∀ j, j < lk_most n i → ad 2 i j ∈ L ∧ f (ad 2 i j) = hl_nat g n (G j)) ∧
  (ad 3 i 0 ∈ L ∧ f (ad 3 i 0) = hl_nat g (lk_most n i) pr) ∧
  (ad 4 i 0 ∈ L ∧ f (ad 4 i 0) = hl_nat g (n - i) sp) ∧
  (ad 5 i 0 ∈ L ∧ f (ad 5 i 0) = hl_row g n (fun p => oI (ix p))) ∧
  (ad 6 i 0 ∈ L ∧ f (ad 6 i 0) = hl_grd g (n - i) (fun j => if j < n - i then some (ad 7 i j) else none)) ∧
  (∀ j, j < n - i → ad 7 i j ∈ L ∧ f (ad 7 i j) = hl_nat g n (wb j))

/-- it is well made -/
def lk_W (n i gn : Nat) (G : Nat → Nat → Nat) (pr : Nat → Nat) (sn : Nat) (sp : Nat → Nat) (ix : Nat → Option Nat) (wb : Nat → Nat → Nat) : Prop :=
  n ≤ 24 ∧ i < n ∧ gn ≤ lk_most n i ∧ (∀ j, j < gn → gp_sym (ch_D n i) (G j)) ∧ 0 < sn ∧ sn ≤ n - i ∧ sp 0 = i ∧ (∀ s, s < sn → i ≤ sp s ∧ sp s < n) ∧
  (∀ p, p < n → ∀ s, ix p = some s ↔ s < sn ∧ sp s = p) ∧ (∀ s, s < sn → gp_sym (ch_D n i) (wb s)) ∧ (∀ j, j < gn → pr j ≤ sn)

theorem lk_sym_lt {n i p : Nat} {a : gp_f} (h : gp_sym (ch_D n i) a) (hp : p < n) : a p < n := by
  by_cases hi : i ≤ p
  · exact (ch_D_mem.1 (gp_sym_mem h (ch_D_mem.2 ⟨hi, hp⟩))).2
  · rw [h.2 p (fun hm => hi (ch_D_mem.1 hm).1)]; exact hp

/-- int spreadSize() -/
theorem c_K_spreadSize (l : Launch) (g : hl_G) (sz : Nat) (L : List Nat) (f : Nat → va_E) (ad : Nat → Nat → Nat → Nat) (n i gn : Nat) (G : Nat → Nat → Nat) (pr : Nat → Nat) (sn : Nat) (sp : Nat → Nat) (ix : Nat → Option Nat) (wb : Nat → Nat → Nat)
    (hP : lk_P g L f ad n i gn G pr sn sp ix wb) :
    Met l y_K_spreadSize (hq y_K_spreadSize b_K_spreadSize 1 (some .int)) { frames := 0, cells := 0, slots := 0, locals := 0 } (hm_P g [.ref (ad 0 i 0)] sz L f) (va_Qi (fun r u => r = nI sn ∧ u = (L, f)) (hm_B g sz L) (hm_A sz L)) 0 0 (hm_A sz L) := by
  refine hm_ofW (by decide) (Nat.le_of_ble_eq_true rfl) ?_
  intro p e s m below meth c X hr hlk hnm hK hsz hh ls hl
  have hl : lv_has ls 1 [(0, .ref (ad 0 i 0))] := hl
  obtain ⟨⟨p0, q0⟩, ⟨p1, q1⟩, hg, ⟨p3, q3⟩, ⟨p4, q4⟩, ⟨p5, q5⟩, ⟨p6, q6⟩, hw⟩ := hP
  refine lv_aload_n X.1 X.2.1 d_K_spreadSize_0 rfl (lv_at hl 0 rfl) ?_
  refine hl_get X hK hh (ref := "CycleGroups$Link") i_K (ci := 3) rfl 4 (by decide) w_124 rfl p0 q0 rfl d_K_spreadSize_1 ?_
  exact hm_iret X hr hlk hh ⟨rfl, rfl⟩ (Nat.le_of_ble_eq_true rfl) (Nat.le_of_ble_eq_true rfl) d_K_spreadSize_4

/-- int openGenerator() -/
theorem c_K_openGenerator (l : Launch) (g : hl_G) (sz : Nat) (L : List Nat) (f : Nat → va_E) (ad : Nat → Nat → Nat → Nat) (n i gn : Nat) (G : Nat → Nat → Nat) (pr : Nat → Nat) (sn : Nat) (sp : Nat → Nat) (ix : Nat → Option Nat) (wb : Nat → Nat → Nat)
    (hP : lk_P g L f ad n i gn G pr sn sp ix wb) (hW : lk_W n i gn G pr sn sp ix wb) :
    Met l y_K_openGenerator (hq y_K_openGenerator b_K_openGenerator 2 (some .int)) { frames := 0, cells := 0, slots := 0, locals := 0 } (hm_P g [.ref (ad 0 i 0)] sz L f) (va_Qi (fun r u => ((∃ k, k < gn ∧ pr k < sn ∧ r = nI k) ∨ (r = -1 ∧ ∀ k, k < gn → sn ≤ pr k)) ∧ u = (L, f)) (hm_B g sz L) (hm_A sz L)) 0 0 (hm_A sz L) := by
  refine hm_ofW (by decide) (Nat.le_of_ble_eq_true rfl) ?_
  intro p e s m below meth c X hr hlk hnm hK hsz hh ls hl
  have hl : lv_has ls 2 [(0, .ref (ad 0 i 0))] := hl
  obtain ⟨⟨p0, q0⟩, ⟨p1, q1⟩, hg, ⟨p3, q3⟩, ⟨p4, q4⟩, ⟨p5, q5⟩, ⟨p6, q6⟩, hw⟩ := hP
  obtain ⟨h24, hin, hgn, hG, hsn0, hsn, hsp0, hsp, hix, hwb, hpr⟩ := hW
  have hmo : lk_most n i ≤ 36 := by unfold lk_most; omega
  have loop : ∀ (t j : Nat) (ls : Array Slot), gn + 1 ≤ j + t → j ≤ gn → (∀ k, k < j → sn ≤ pr k) → lv_has ls 2 [(1, .int (nI j)), (0, .ref (ad 0 i 0))] →
      W p l e { frames := 0, cells := 0, slots := 0, locals := 0 } s m #[.ref (ad 0 i 0)] below meth c s.heap [] 0 0 (MQ below (va_Qi (fun r u => ((∃ k, k < gn ∧ pr k < sn ∧ r = nI k) ∨ (r = -1 ∧ ∀ k, k < gn → sn ≤ pr k)) ∧ u = (L, f)) (hm_B g sz L) (hm_A sz L)) #[.ref (ad 0 i 0)] s 0 0 (hm_A sz L)) (F0 m 2 ls []) := by
    intro t
    induction t with
    | zero => intros; omega
    | succ t ih =>
      intro j ls hk hj hd hl
      refine lv_iload_n X.1 X.2.1 d_K_openGenerator_2 rfl (lv_at hl 0 rfl) ?_
      refine lv_aload_n X.1 X.2.1 d_K_openGenerator_3 rfl (lv_at hl 1 rfl) ?_
      refine hl_get X hK hh (ref := "CycleGroups$Link") i_K (ci := 3) rfl 1 (by decide) w_121 rfl p0 q0 rfl d_K_openGenerator_4 ?_
      refine hn_ige (tgt := 31) X (by omega) (by omega) d_K_openGenerator_7 (by decide) (fun hc => ?_) (fun hc => ?_)
      · skip
        refine lv_iconst (v := -1) X.1 X.2.1 d_K_openGenerator_31 (by decide) ?_
        exact hm_iret X hr hlk hh ⟨Or.inr ⟨rfl, fun k hk => hd k (by omega)⟩, rfl⟩ (Nat.le_of_ble_eq_true rfl) (Nat.le_of_ble_eq_true rfl) d_K_openGenerator_32
      · have hcj : j < gn := hc
        have hpj := hpr j hcj
        refine lv_aload_n X.1 X.2.1 d_K_openGenerator_10 rfl (lv_at hl 1 rfl) ?_
        refine hl_get X hK hh (ref := "CycleGroups$Link") i_K (ci := 3) rfl 2 (by decide) w_122 rfl p0 q0 rfl d_K_openGenerator_11 ?_
        refine lv_iload_n X.1 X.2.1 d_K_openGenerator_14 rfl (lv_at hl 0 rfl) ?_
        refine hl_iald X hK hh p3 q3 (by omega) (by omega) d_K_openGenerator_15 ?_
        refine lv_aload_n X.1 X.2.1 d_K_openGenerator_16 rfl (lv_at hl 1 rfl) ?_
        refine hl_get X hK hh (ref := "CycleGroups$Link") i_K (ci := 3) rfl 4 (by decide) w_124 rfl p0 q0 rfl d_K_openGenerator_17 ?_
        refine hn_ige (tgt := 25) X (by omega) (by omega) d_K_openGenerator_20 (by decide) (fun hc => ?_) (fun hc => ?_)
        · skip
          refine lv_iinc (v := nI (j + 1)) (lv' := [(1, .int (nI (j + 1))), (0, .ref (ad 0 i 0))]) X.1 X.2.1 d_K_openGenerator_25 hl (k := 0) rfl (hn_inc _) (by decide) rfl (fun ls hl => ?_)
          refine lv_goto (tgt := 2) X.1 X.2.1 d_K_openGenerator_28 (by decide) ?_
          refine ih (j + 1) ls (by omega) (by omega) (fun k hk2 => ?_) hl
          by_cases e : k = j
          · rw [e]; exact hc
          · exact hd k (by omega)
        · skip
          refine lv_iload_n X.1 X.2.1 d_K_openGenerator_23 rfl (lv_at hl 0 rfl) ?_
          exact hm_iret X hr hlk hh ⟨Or.inl ⟨j, hcj, hc, rfl⟩, rfl⟩ (Nat.le_of_ble_eq_true rfl) (Nat.le_of_ble_eq_true rfl) d_K_openGenerator_24
  refine lv_iconst (v := nI 0) X.1 X.2.1 d_K_openGenerator_0 (by decide) ?_
  refine lv_istore_n (lv' := [(1, .int (nI 0)), (0, .ref (ad 0 i 0))]) X.1 X.2.1 d_K_openGenerator_1 rfl hl (by decide) rfl (fun ls hl => ?_)
  exact loop (gn + 1) 0 ls (by omega) (by omega) (fun k hk => absurd hk (Nat.not_lt_zero _)) hl

/-- boolean undo(int[] row) -/
theorem c_K_undo (l : Launch) (g : hl_G) (sz : Nat) (L : List Nat) (f : Nat → va_E) (T : Nat → Nat) (ad : Nat → Nat → Nat → Nat) (n i gn : Nat) (G : Nat → Nat → Nat) (pr : Nat → Nat) (sn : Nat) (sp : Nat → Nat) (ix : Nat → Option Nat) (wb : Nat → Nat → Nat)
    (hP : lk_P g L f ad n i gn G pr sn sp ix wb) (hW : lk_W n i gn G pr sn sp ix wb) (hT : lk_T T ad n i) (rw0 : Nat) (r : gp_f) (hr0 : rw0 ∈ L) (hfr : f rw0 = hl_nat g n r) (hTr : T rw0 < 100) (hr : gp_sym (ch_D n i) r) :
    Met l y_K_undo (hq y_K_undo b_K_undo 6 (some .boolean)) { frames := 0, cells := 0, slots := 0, locals := 0 } (hm_P g [.ref (ad 0 i 0), .ref rw0] sz L f) (va_Qi (fun v u => (ix (r i) = none ∧ v = nI 0 ∧ u = (L, f)) ∨ (∃ t, ix (r i) = some t ∧ v = nI 1 ∧ u = (L, va_up f rw0 (hl_nat g n (wb t ∘ r))))) (hm_B g sz L) (hm_A sz L)) 0 0 (hm_A sz L) := by
  have hrr := hr
  refine hm_ofW (by decide) (Nat.le_of_ble_eq_true rfl) ?_
  intro p e s m below meth c X hr hlk hnm hK hsz hh ls hl
  have hl : lv_has ls 6 [(0, .ref (ad 0 i 0)), (1, .ref rw0)] := hl
  obtain ⟨⟨p0, q0⟩, ⟨p1, q1⟩, hg, ⟨p3, q3⟩, ⟨p4, q4⟩, ⟨p5, q5⟩, ⟨p6, q6⟩, hw⟩ := hP
  obtain ⟨h24, hin, hgn, hG, hsn0, hsn, hsp0, hsp, hix, hwb, hpr⟩ := hW
  have hri := lk_sym_lt hrr hin
  refine lv_aload_n X.1 X.2.1 d_K_undo_0 rfl (lv_at hl 0 rfl) ?_
  refine hl_get X hK hh (ref := "CycleGroups$Link") i_K (ci := 3) rfl 3 (by decide) w_123 rfl p0 q0 rfl d_K_undo_1 ?_
  refine lv_iconst (v := nI 0) X.1 X.2.1 d_K_undo_4 (by decide) ?_
  refine hl_iald X hK hh p4 q4 (by omega) (by omega) d_K_undo_5 ?_
  rw [hsp0]
  refine lv_istore_n (lv' := [(2, .int (nI i)), (0, .ref (ad 0 i 0)), (1, .ref rw0)]) X.1 X.2.1 d_K_undo_6 rfl hl (by decide) rfl (fun ls hl => ?_)
  refine lv_aload_n X.1 X.2.1 d_K_undo_7 rfl (lv_at hl 1 rfl) ?_
  refine hl_get X hK hh (ref := "CycleGroups$Link") i_K (ci := 3) rfl 5 (by decide) w_125 rfl p0 q0 rfl d_K_undo_8 ?_
  refine lv_aload_n X.1 X.2.1 d_K_undo_11 rfl (lv_at hl 2 rfl) ?_
  refine lv_iload_n X.1 X.2.1 d_K_undo_12 rfl (lv_at hl 0 rfl) ?_
  refine hl_iald X hK hh hr0 hfr (by omega) (by omega) d_K_undo_13 ?_
  refine hl_iald X hK hh p5 q5 (by omega) (by omega) d_K_undo_14 ?_
  refine lv_istore_n (lv' := [(3, .int (oI (ix (r i)))), (2, .int (nI i)), (0, .ref (ad 0 i 0)), (1, .ref rw0)]) X.1 X.2.1 d_K_undo_15 rfl hl (by decide) rfl (fun ls hl => ?_)
  rcases (show ix (r i) = none ∨ ∃ t, ix (r i) = some t by cases ix (r i) <;> simp) with hx | ⟨t, hx⟩
  · have e1 : oI (ix (r i)) = -1 := by rw [hx]; rfl
    rw [e1] at hl
    refine lv_iload_n X.1 X.2.1 d_K_undo_16 rfl (lv_at hl 0 rfl) ?_
    refine lv_if_ge (tgt := 22) X.1 X.2.1 d_K_undo_17 (by decide) (fun hc => ?_) (fun hc => ?_)
    · exact absurd hc (by decide)
    · skip
      refine lv_iconst (v := nI 0) X.1 X.2.1 d_K_undo_20 (by decide) ?_
      exact hm_zret X hr hlk hh (Or.inl rfl) (Or.inl ⟨hx, rfl, rfl⟩) (Nat.le_of_ble_eq_true rfl) (Nat.le_of_ble_eq_true rfl) d_K_undo_21
  · have e1 : oI (ix (r i)) = nI t := by rw [hx]; rfl
    rw [e1] at hl
    obtain ⟨hts, hspt⟩ := (hix (r i) hri t).1 hx
    obtain ⟨hwL, hwf⟩ := hw t (by omega)
    have hwt := hwb t hts
    refine lv_iload_n X.1 X.2.1 d_K_undo_16 rfl (lv_at hl 0 rfl) ?_
    refine lv_if_ge (tgt := 22) X.1 X.2.1 d_K_undo_17 (by decide) (fun hc => ?_) (fun hc => ?_)
    · have loop : ∀ (t2 q : Nat) (y : Nat → Nat) (H : Heap) (locs : List Loc) (ls : Array Slot), n + 1 ≤ q + t2 → q ≤ n → (∀ p, p < q → y p = wb t (r p)) → (∀ p, q ≤ p → y p = r p) →
          hl_H g (hm_A sz L) s.heap L (va_up f rw0 (hl_nat g n y)) H locs → lv_has ls 6 [(5, .int (nI q)), (4, .ref (ad 7 i t)), (3, .int (nI t)), (2, .int (nI i)), (0, .ref (ad 0 i 0)), (1, .ref rw0)] →
          W p l e { frames := 0, cells := 0, slots := 0, locals := 0 } s m #[.ref (ad 0 i 0), .ref rw0] below meth c H locs 0 0 (MQ below (va_Qi (fun v u => (ix (r i) = none ∧ v = nI 0 ∧ u = (L, f)) ∨ (∃ t, ix (r i) = some t ∧ v = nI 1 ∧ u = (L, va_up f rw0 (hl_nat g n (wb t ∘ r))))) (hm_B g sz L) (hm_A sz L)) #[.ref (ad 0 i 0), .ref rw0] s 0 0 (hm_A sz L)) (F0 m 33 ls []) := by
        intro t2
        induction t2 with
        | zero => intros; omega
        | succ t2 ih =>
          intro q y H locs ls hkq hqn hy hy2 hh hl
          refine lv_iload X.1 X.2.1 d_K_undo_33 (lv_at hl 0 rfl) ?_
          refine lv_aload_n X.1 X.2.1 d_K_undo_35 rfl (lv_at hl 5 rfl) ?_
          refine hl_alenI X hK hh hr0 (va_up_self ..) d_K_undo_36 ?_
          refine hn_ige (tgt := 57) X (by omega) (by omega) d_K_undo_37 (by decide) (fun hc => ?_) (fun hc => ?_)
          · have hh := hl_norm (w := fun p => nI ((wb t ∘ r) p)) hh (fun p hp => by rw [hy p (by omega)]; rfl)
            refine lv_iconst (v := nI 1) X.1 X.2.1 d_K_undo_57 (by decide) ?_
            exact hm_zret X hr hlk hh (Or.inr rfl) (Or.inr ⟨t, hx, rfl, rfl⟩) (Nat.le_of_ble_eq_true rfl) (Nat.le_of_ble_eq_true rfl) d_K_undo_58
          · have hyq := hy2 q (Nat.le_refl _)
            have hrq := lk_sym_lt hrr hc
            refine lv_aload_n X.1 X.2.1 d_K_undo_40 rfl (lv_at hl 5 rfl) ?_
            refine lv_iload X.1 X.2.1 d_K_undo_41 (lv_at hl 0 rfl) ?_
            refine lv_aload X.1 X.2.1 d_K_undo_43 (lv_at hl 1 rfl) ?_
            refine lv_aload_n X.1 X.2.1 d_K_undo_45 rfl (lv_at hl 5 rfl) ?_
            refine lv_iload X.1 X.2.1 d_K_undo_46 (lv_at hl 0 rfl) ?_
            refine hl_iald X hK hh hr0 (va_up_self ..) (by omega) (by omega) d_K_undo_48 ?_
            refine hl_iald X hK hh hwL ((va_up_ne _ _ (hl_ne (T := T) (by rw [hT 7 t (by decide) (show t < n - i by omega)]; omega))).trans hwf) (by omega) (by omega) d_K_undo_49 ?_
            refine hl_iastN X hK hh hr0 (va_up_self ..) (by omega) (by omega) d_K_undo_50 (fun H locs hh => ?_)
            rw [hr_uu] at hh
            refine lv_iinc (v := nI (q + 1)) (lv' := [(5, .int (nI (q + 1))), (4, .ref (ad 7 i t)), (3, .int (nI t)), (2, .int (nI i)), (0, .ref (ad 0 i 0)), (1, .ref rw0)]) X.1 X.2.1 d_K_undo_51 hl (k := 0) rfl (hn_inc _) (by decide) rfl (fun ls hl => ?_)
            refine lv_goto (tgt := 33) X.1 X.2.1 d_K_undo_54 (by decide) ?_
            rw [hyq] at hh
            refine ih (q + 1) (va_up y q (wb t (r q))) H locs ls (by omega) (by omega) (fun p hp => ?_) (fun p hp => ?_) hh hl
            · by_cases e : p = q
              · rw [e, va_up_self]
              · rw [va_up_ne _ _ e]; exact hy p (by omega)
            · rw [va_up_ne _ _ (by omega)]; exact hy2 p (by omega)
      refine lv_aload_n X.1 X.2.1 d_K_undo_22 rfl (lv_at hl 2 rfl) ?_
      refine hl_get X hK hh (ref := "CycleGroups$Link") i_K (ci := 3) rfl 6 (by decide) w_126 rfl p0 q0 rfl d_K_undo_23 ?_
      refine lv_iload_n X.1 X.2.1 d_K_undo_26 rfl (lv_at hl 0 rfl) ?_
      refine hl_aaldG X hK hh p6 q6 (by omega) (by omega) (if_pos (by omega)) d_K_undo_27 ?_
      refine lv_astore (lv' := [(4, .ref (ad 7 i t)), (3, .int (nI t)), (2, .int (nI i)), (0, .ref (ad 0 i 0)), (1, .ref rw0)]) X.1 X.2.1 d_K_undo_28 hl (by decide) rfl (fun ls hl => ?_)
      refine lv_iload_n X.1 X.2.1 d_K_undo_30 rfl (lv_at hl 2 rfl) ?_
      refine lv_istore (lv' := [(5, .int (nI i)), (4, .ref (ad 7 i t)), (3, .int (nI t)), (2, .int (nI i)), (0, .ref (ad 0 i 0)), (1, .ref rw0)]) X.1 X.2.1 d_K_undo_31 hl (by decide) rfl (fun ls hl => ?_)
      refine loop (n + 1 - i) i r s.heap [] ls (by omega) (by omega) (fun p hp => ?_) (fun _ _ => rfl) (hl_same hfr hh) hl
      have h1 : r p = p := hrr.2 p (fun hm => by have := ch_D_mem.1 hm; omega)
      have h2 : wb t p = p := hwt.2 p (fun hm => by have := ch_D_mem.1 hm; omega)
      rw [h1, h2]
    · exact absurd (nI_pos' (by omega)) hc
end
end
section
/-! The cells of a link, one changed; Link: clear, addGenerator, widen, reachesNewPlace. -/
section
theorem lk_fr {T : Nat → Nat} {ad : Nat → Nat → Nat → Nat} {n i k j : Nat} (hT : lk_T T ad n i) (hk : k < 8) (hv : lk_j n i k j) (hj : j < 64) (f : Nat → va_E) (x : va_E) : ∀ q, ¬ lk_tag i (T q) → va_up f (ad k i j) x q = f q := by
  intro q hq
  refine va_up_ne _ _ (fun e => hq ?_)
  rw [e]
  exact ⟨k, j, hk, hj, hT k j hk hv⟩
section
variable {g : hl_G} {L : List Nat} {f : Nat → va_E} {T : Nat → Nat} {ad : Nat → Nat → Nat → Nat} {n i gn : Nat} {G : Nat → Nat → Nat} {pr : Nat → Nat} {sn : Nat} {sp : Nat → Nat} {ix : Nat → Option Nat} {wb : Nat → Nat → Nat}

theorem lk_up0 (hn : n ≤ 24) (hP : lk_P g L f ad n i gn G pr sn sp ix wb) (hT : lk_T T ad n i) (gn' sn' : Nat) : lk_P g L (va_up f (ad 0 i 0) (.inr (3, [.ref (ad 1 i 0), .int (nI gn'), .ref (ad 3 i 0), .ref (ad 4 i 0), .int (nI sn'), .ref (ad 5 i 0), .ref (ad 6 i 0)]))) ad n i gn' G pr sn' sp ix wb := by
  obtain ⟨⟨p0, q0⟩, ⟨p1, q1⟩, hg, ⟨p3, q3⟩, ⟨p4, q4⟩, ⟨p5, q5⟩, ⟨p6, q6⟩, hw⟩ := hP
  have hmo : lk_most n i ≤ 36 := by unfold lk_most; omega
  exact ⟨⟨p0, va_up_self ..⟩, ⟨p1, (va_up_ne _ _ (hl_ne (T := T) (by rw [hT 1 0 (by decide) rfl, hT 0 0 (by decide) rfl]; omega))).trans q1⟩, (fun j0 hj0 => ⟨(hg j0 hj0).1, (va_up_ne _ _ (hl_ne (T := T) (by rw [hT 2 j0 (by decide) (show j0 < lk_most n i by omega), hT 0 0 (by decide) rfl]; omega))).trans (hg j0 hj0).2⟩), ⟨p3, (va_up_ne _ _ (hl_ne (T := T) (by rw [hT 3 0 (by decide) rfl, hT 0 0 (by decide) rfl]; omega))).trans q3⟩, ⟨p4, (va_up_ne _ _ (hl_ne (T := T) (by rw [hT 4 0 (by decide) rfl, hT 0 0 (by decide) rfl]; omega))).trans q4⟩, ⟨p5, (va_up_ne _ _ (hl_ne (T := T) (by rw [hT 5 0 (by decide) rfl, hT 0 0 (by decide) rfl]; omega))).trans q5⟩, ⟨p6, (va_up_ne _ _ (hl_ne (T := T) (by rw [hT 6 0 (by decide) rfl, hT 0 0 (by decide) rfl]; omega))).trans q6⟩, (fun j0 hj0 => ⟨(hw j0 hj0).1, (va_up_ne _ _ (hl_ne (T := T) (by rw [hT 7 j0 (by decide) (show j0 < n - i by omega), hT 0 0 (by decide) rfl]; omega))).trans (hw j0 hj0).2⟩)⟩

theorem lk_up2 (hn : n ≤ 24) (hP : lk_P g L f ad n i gn G pr sn sp ix wb) (hT : lk_T T ad n i) (j : Nat) (hj : j < lk_most n i) (r : Nat → Nat) : lk_P g L (va_up f (ad 2 i j) (hl_nat g n r)) ad n i gn (va_up G j r) pr sn sp ix wb := by
  obtain ⟨⟨p0, q0⟩, ⟨p1, q1⟩, hg, ⟨p3, q3⟩, ⟨p4, q4⟩, ⟨p5, q5⟩, ⟨p6, q6⟩, hw⟩ := hP
  have hmo : lk_most n i ≤ 36 := by unfold lk_most; omega
  exact ⟨⟨p0, (va_up_ne _ _ (hl_ne (T := T) (by rw [hT 0 0 (by decide) rfl, hT 2 j (by decide) (show j < lk_most n i by omega)]; omega))).trans q0⟩, ⟨p1, (va_up_ne _ _ (hl_ne (T := T) (by rw [hT 1 0 (by decide) rfl, hT 2 j (by decide) (show j < lk_most n i by omega)]; omega))).trans q1⟩, (fun j0 hj0 => ⟨(hg j0 hj0).1, by
      by_cases e : j0 = j
      · subst e; rw [va_up_self, va_up_self]
      · rw [va_up_ne _ _ (hl_ne (T := T) (by rw [hT 2 j0 (by decide) (show j0 < lk_most n i by omega), hT 2 j (by decide) (show j < lk_most n i by omega)]; omega)), va_up_ne _ _ e]; exact (hg j0 hj0).2⟩), ⟨p3, (va_up_ne _ _ (hl_ne (T := T) (by rw [hT 3 0 (by decide) rfl, hT 2 j (by decide) (show j < lk_most n i by omega)]; omega))).trans q3⟩, ⟨p4, (va_up_ne _ _ (hl_ne (T := T) (by rw [hT 4 0 (by decide) rfl, hT 2 j (by decide) (show j < lk_most n i by omega)]; omega))).trans q4⟩, ⟨p5, (va_up_ne _ _ (hl_ne (T := T) (by rw [hT 5 0 (by decide) rfl, hT 2 j (by decide) (show j < lk_most n i by omega)]; omega))).trans q5⟩, ⟨p6, (va_up_ne _ _ (hl_ne (T := T) (by rw [hT 6 0 (by decide) rfl, hT 2 j (by decide) (show j < lk_most n i by omega)]; omega))).trans q6⟩, (fun j0 hj0 => ⟨(hw j0 hj0).1, (va_up_ne _ _ (hl_ne (T := T) (by rw [hT 7 j0 (by decide) (show j0 < n - i by omega), hT 2 j (by decide) (show j < lk_most n i by omega)]; omega))).trans (hw j0 hj0).2⟩)⟩

theorem lk_up3 (hn : n ≤ 24) (hP : lk_P g L f ad n i gn G pr sn sp ix wb) (hT : lk_T T ad n i) (pr' : Nat → Nat) : lk_P g L (va_up f (ad 3 i 0) (hl_nat g (lk_most n i) pr')) ad n i gn G pr' sn sp ix wb := by
  obtain ⟨⟨p0, q0⟩, ⟨p1, q1⟩, hg, ⟨p3, q3⟩, ⟨p4, q4⟩, ⟨p5, q5⟩, ⟨p6, q6⟩, hw⟩ := hP
  have hmo : lk_most n i ≤ 36 := by unfold lk_most; omega
  exact ⟨⟨p0, (va_up_ne _ _ (hl_ne (T := T) (by rw [hT 0 0 (by decide) rfl, hT 3 0 (by decide) rfl]; omega))).trans q0⟩, ⟨p1, (va_up_ne _ _ (hl_ne (T := T) (by rw [hT 1 0 (by decide) rfl, hT 3 0 (by decide) rfl]; omega))).trans q1⟩, (fun j0 hj0 => ⟨(hg j0 hj0).1, (va_up_ne _ _ (hl_ne (T := T) (by rw [hT 2 j0 (by decide) (show j0 < lk_most n i by omega), hT 3 0 (by decide) rfl]; omega))).trans (hg j0 hj0).2⟩), ⟨p3, va_up_self ..⟩, ⟨p4, (va_up_ne _ _ (hl_ne (T := T) (by rw [hT 4 0 (by decide) rfl, hT 3 0 (by decide) rfl]; omega))).trans q4⟩, ⟨p5, (va_up_ne _ _ (hl_ne (T := T) (by rw [hT 5 0 (by decide) rfl, hT 3 0 (by decide) rfl]; omega))).trans q5⟩, ⟨p6, (va_up_ne _ _ (hl_ne (T := T) (by rw [hT 6 0 (by decide) rfl, hT 3 0 (by decide) rfl]; omega))).trans q6⟩, (fun j0 hj0 => ⟨(hw j0 hj0).1, (va_up_ne _ _ (hl_ne (T := T) (by rw [hT 7 j0 (by decide) (show j0 < n - i by omega), hT 3 0 (by decide) rfl]; omega))).trans (hw j0 hj0).2⟩)⟩

theorem lk_up4 (hn : n ≤ 24) (hP : lk_P g L f ad n i gn G pr sn sp ix wb) (hT : lk_T T ad n i) (sp' : Nat → Nat) : lk_P g L (va_up f (ad 4 i 0) (hl_nat g (n - i) sp')) ad n i gn G pr sn sp' ix wb := by
  obtain ⟨⟨p0, q0⟩, ⟨p1, q1⟩, hg, ⟨p3, q3⟩, ⟨p4, q4⟩, ⟨p5, q5⟩, ⟨p6, q6⟩, hw⟩ := hP
  have hmo : lk_most n i ≤ 36 := by unfold lk_most; omega
  exact ⟨⟨p0, (va_up_ne _ _ (hl_ne (T := T) (by rw [hT 0 0 (by decide) rfl, hT 4 0 (by decide) rfl]; omega))).trans q0⟩, ⟨p1, (va_up_ne _ _ (hl_ne (T := T) (by rw [hT 1 0 (by decide) rfl, hT 4 0 (by decide) rfl]; omega))).trans q1⟩, (fun j0 hj0 => ⟨(hg j0 hj0).1, (va_up_ne _ _ (hl_ne (T := T) (by rw [hT 2 j0 (by decide) (show j0 < lk_most n i by omega), hT 4 0 (by decide) rfl]; omega))).trans (hg j0 hj0).2⟩), ⟨p3, (va_up_ne _ _ (hl_ne (T := T) (by rw [hT 3 0 (by decide) rfl, hT 4 0 (by decide) rfl]; omega))).trans q3⟩, ⟨p4, va_up_self ..⟩, ⟨p5, (va_up_ne _ _ (hl_ne (T := T) (by rw [hT 5 0 (by decide) rfl, hT 4 0 (by decide) rfl]; omega))).trans q5⟩, ⟨p6, (va_up_ne _ _ (hl_ne (T := T) (by rw [hT 6 0 (by decide) rfl, hT 4 0 (by decide) rfl]; omega))).trans q6⟩, (fun j0 hj0 => ⟨(hw j0 hj0).1, (va_up_ne _ _ (hl_ne (T := T) (by rw [hT 7 j0 (by decide) (show j0 < n - i by omega), hT 4 0 (by decide) rfl]; omega))).trans (hw j0 hj0).2⟩)⟩

theorem lk_up5 (hn : n ≤ 24) (hP : lk_P g L f ad n i gn G pr sn sp ix wb) (hT : lk_T T ad n i) (ix' : Nat → Option Nat) : lk_P g L (va_up f (ad 5 i 0) (hl_row g n (fun p => oI (ix' p)))) ad n i gn G pr sn sp ix' wb := by
  obtain ⟨⟨p0, q0⟩, ⟨p1, q1⟩, hg, ⟨p3, q3⟩, ⟨p4, q4⟩, ⟨p5, q5⟩, ⟨p6, q6⟩, hw⟩ := hP
  have hmo : lk_most n i ≤ 36 := by unfold lk_most; omega
  exact ⟨⟨p0, (va_up_ne _ _ (hl_ne (T := T) (by rw [hT 0 0 (by decide) rfl, hT 5 0 (by decide) rfl]; omega))).trans q0⟩, ⟨p1, (va_up_ne _ _ (hl_ne (T := T) (by rw [hT 1 0 (by decide) rfl, hT 5 0 (by decide) rfl]; omega))).trans q1⟩, (fun j0 hj0 => ⟨(hg j0 hj0).1, (va_up_ne _ _ (hl_ne (T := T) (by rw [hT 2 j0 (by decide) (show j0 < lk_most n i by omega), hT 5 0 (by decide) rfl]; omega))).trans (hg j0 hj0).2⟩), ⟨p3, (va_up_ne _ _ (hl_ne (T := T) (by rw [hT 3 0 (by decide) rfl, hT 5 0 (by decide) rfl]; omega))).trans q3⟩, ⟨p4, (va_up_ne _ _ (hl_ne (T := T) (by rw [hT 4 0 (by decide) rfl, hT 5 0 (by decide) rfl]; omega))).trans q4⟩, ⟨p5, va_up_self ..⟩, ⟨p6, (va_up_ne _ _ (hl_ne (T := T) (by rw [hT 6 0 (by decide) rfl, hT 5 0 (by decide) rfl]; omega))).trans q6⟩, (fun j0 hj0 => ⟨(hw j0 hj0).1, (va_up_ne _ _ (hl_ne (T := T) (by rw [hT 7 j0 (by decide) (show j0 < n - i by omega), hT 5 0 (by decide) rfl]; omega))).trans (hw j0 hj0).2⟩)⟩

theorem lk_up7 (hn : n ≤ 24) (hP : lk_P g L f ad n i gn G pr sn sp ix wb) (hT : lk_T T ad n i) (j : Nat) (hj : j < n - i) (r : Nat → Nat) : lk_P g L (va_up f (ad 7 i j) (hl_nat g n r)) ad n i gn G pr sn sp ix (va_up wb j r) := by
  obtain ⟨⟨p0, q0⟩, ⟨p1, q1⟩, hg, ⟨p3, q3⟩, ⟨p4, q4⟩, ⟨p5, q5⟩, ⟨p6, q6⟩, hw⟩ := hP
  have hmo : lk_most n i ≤ 36 := by unfold lk_most; omega
  exact ⟨⟨p0, (va_up_ne _ _ (hl_ne (T := T) (by rw [hT 0 0 (by decide) rfl, hT 7 j (by decide) (show j < n - i by omega)]; omega))).trans q0⟩, ⟨p1, (va_up_ne _ _ (hl_ne (T := T) (by rw [hT 1 0 (by decide) rfl, hT 7 j (by decide) (show j < n - i by omega)]; omega))).trans q1⟩, (fun j0 hj0 => ⟨(hg j0 hj0).1, (va_up_ne _ _ (hl_ne (T := T) (by rw [hT 2 j0 (by decide) (show j0 < lk_most n i by omega), hT 7 j (by decide) (show j < n - i by omega)]; omega))).trans (hg j0 hj0).2⟩), ⟨p3, (va_up_ne _ _ (hl_ne (T := T) (by rw [hT 3 0 (by decide) rfl, hT 7 j (by decide) (show j < n - i by omega)]; omega))).trans q3⟩, ⟨p4, (va_up_ne _ _ (hl_ne (T := T) (by rw [hT 4 0 (by decide) rfl, hT 7 j (by decide) (show j < n - i by omega)]; omega))).trans q4⟩, ⟨p5, (va_up_ne _ _ (hl_ne (T := T) (by rw [hT 5 0 (by decide) rfl, hT 7 j (by decide) (show j < n - i by omega)]; omega))).trans q5⟩, ⟨p6, (va_up_ne _ _ (hl_ne (T := T) (by rw [hT 6 0 (by decide) rfl, hT 7 j (by decide) (show j < n - i by omega)]; omega))).trans q6⟩, (fun j0 hj0 => ⟨(hw j0 hj0).1, by
      by_cases e : j0 = j
      · subst e; rw [va_up_self, va_up_self]
      · rw [va_up_ne _ _ (hl_ne (T := T) (by rw [hT 7 j0 (by decide) (show j0 < n - i by omega), hT 7 j (by decide) (show j < n - i by omega)]; omega)), va_up_ne _ _ e]; exact (hw j0 hj0).2⟩)⟩

end
end
end
section
/-! Link: addGenerator, widen, reachesNewPlace, clear. -/
section
theorem hr_upo (ix : Nat → Option Nat) (q k : Nat) : va_up (fun p => oI (ix p)) q (nI k) = fun p => oI (va_up ix q (some k) p) := by
  funext p
  by_cases h : p = q
  · rw [h, va_up_self, va_up_self]; rfl
  · rw [va_up_ne _ _ h, va_up_ne _ _ h]

/-- void addGenerator(int[] row), where there is room for one -/
theorem c_K_addGenerator (l : Launch) (g : hl_G) (sz : Nat) (L : List Nat) (f : Nat → va_E) (T : Nat → Nat) (ad : Nat → Nat → Nat → Nat) (n i gn : Nat) (G : Nat → Nat → Nat) (pr : Nat → Nat) (sn : Nat) (sp : Nat → Nat) (ix : Nat → Option Nat) (wb : Nat → Nat → Nat)
    (hP : lk_P g L f ad n i gn G pr sn sp ix wb) (hn : n ≤ 24) (hT : lk_T T ad n i) (hgm : gn < lk_most n i) (rw0 : Nat) (r : gp_f) (hr0 : rw0 ∈ L) (hfr : f rw0 = hl_nat g n r) (hTr : T rw0 = 9) :
    Met l y_K_addGenerator (hq y_K_addGenerator b_K_addGenerator 2 none) { frames := 1, cells := 0, slots := 0, locals := 60 } (hm_P g [.ref (ad 0 i 0), .ref rw0] sz L f) (va_Qv (fun u => ∃ f1, u = (L, f1) ∧ lk_P g L f1 ad n i (gn + 1) (va_up G gn r) (va_up pr gn 0) sn sp ix wb ∧ ∀ q, ¬ lk_tag i (T q) → f1 q = f q) (hm_B g sz L) (hm_A sz L)) 0 0 (hm_A sz L) := by
  refine hm_ofW (by decide) (Nat.le_of_ble_eq_true rfl) ?_
  intro p e s m below meth c X hr hlk hnm hK hsz hh ls hl
  have hl : lv_has ls 2 [(0, .ref (ad 0 i 0)), (1, .ref rw0)] := hl
  have hP0 := hP
  obtain ⟨⟨p0, q0⟩, ⟨p1, q1⟩, hg, ⟨p3, q3⟩, ⟨p4, q4⟩, ⟨p5, q5⟩, ⟨p6, q6⟩, hw⟩ := hP
  have hmo : lk_most n i ≤ 36 := by unfold lk_most; omega
  obtain ⟨pg, qg⟩ := hg gn hgm
  refine lv_aload_n X.1 X.2.1 d_K_addGenerator_0 rfl (lv_at hl 0 rfl) ?_
  refine hl_get X hK hh (ref := "CycleGroups$Link") i_K (ci := 3) rfl 1 (by decide) w_121 rfl p0 q0 rfl d_K_addGenerator_1 ?_
  refine lv_aload_n X.1 X.2.1 d_K_addGenerator_4 rfl (lv_at hl 0 rfl) ?_
  refine hl_get X hK hh (ref := "CycleGroups$Link") i_K (ci := 3) rfl 0 (by decide) w_120 rfl p0 q0 rfl d_K_addGenerator_5 ?_
  refine hl_alenG X hK hh p1 q1 d_K_addGenerator_8 ?_
  refine hn_ilt (tgt := 13) X (by omega) (by omega) d_K_addGenerator_9 (by decide) (fun hc => ?_) (fun hc => ?_)
  · skip
    refine lv_aload_n X.1 X.2.1 d_K_addGenerator_13 rfl (lv_at hl 1 rfl) ?_
    refine lv_iconst (v := nI 0) X.1 X.2.1 d_K_addGenerator_14 (by decide) ?_
    refine lv_aload_n X.1 X.2.1 d_K_addGenerator_15 rfl (lv_at hl 0 rfl) ?_
    refine hl_get X hK hh (ref := "CycleGroups$Link") i_K (ci := 3) rfl 0 (by decide) w_120 rfl p0 q0 rfl d_K_addGenerator_16 ?_
    refine lv_aload_n X.1 X.2.1 d_K_addGenerator_19 rfl (lv_at hl 0 rfl) ?_
    refine hl_get X hK hh (ref := "CycleGroups$Link") i_K (ci := 3) rfl 1 (by decide) w_121 rfl p0 q0 rfl d_K_addGenerator_20 ?_
    refine hl_aaldG X hK hh p1 q1 (by omega) (by omega) (if_pos hgm) d_K_addGenerator_23 ?_
    refine lv_iconst (v := nI 0) X.1 X.2.1 d_K_addGenerator_24 (by decide) ?_
    refine lv_aload_n X.1 X.2.1 d_K_addGenerator_25 rfl (lv_at hl 1 rfl) ?_
    refine hl_alenI X hK hh hr0 hfr d_K_addGenerator_26 ?_
    refine hl_copy X hK hh w_179 hr0 hfr pg qg (by omega) (by omega) (by omega) (by omega) hl.1 (Nat.le_of_ble_eq_true rfl) (Nat.le_of_ble_eq_true rfl) d_K_addGenerator_27 (fun H locs hh => ?_)
    have hh := hl_norm (w := fun p => nI (r p)) hh (fun p hp => by rw [pk_cpy_in (Nat.zero_le p) (by omega)]; simp)
    obtain ⟨f1, hf1⟩ : ∃ x : Nat → va_E, x = va_up f (ad 2 i gn) (hl_nat g n r) := ⟨_, rfl⟩
    have hh : hl_H g (hm_A sz L) s.heap L f1 H locs := by rw [hf1]; exact hh
    have q1_ad0i0 := (congrFun hf1 (ad 0 i 0)).trans ((va_up_ne _ _ (hl_ne (T := T) (by rw [(hT 0 0 (by decide) rfl), (hT 2 gn (by decide) (show gn < lk_most n i by omega))]; omega))).trans q0)
    have q1_ad1i0 := (congrFun hf1 (ad 1 i 0)).trans ((va_up_ne _ _ (hl_ne (T := T) (by rw [(hT 1 0 (by decide) rfl), (hT 2 gn (by decide) (show gn < lk_most n i by omega))]; omega))).trans q1)
    have q1_ad3i0 := (congrFun hf1 (ad 3 i 0)).trans ((va_up_ne _ _ (hl_ne (T := T) (by rw [(hT 3 0 (by decide) rfl), (hT 2 gn (by decide) (show gn < lk_most n i by omega))]; omega))).trans q3)
    have q1_rw0 := (congrFun hf1 rw0).trans ((va_up_ne _ _ (hl_ne (T := T) (by rw [hTr, (hT 2 gn (by decide) (show gn < lk_most n i by omega))]; omega))).trans hfr)
    have q1_ad2ign := (congrFun hf1 (ad 2 i gn)).trans (va_up_self ..)
    refine lv_aload_n X.1 X.2.1 d_K_addGenerator_30 rfl (lv_at hl 0 rfl) ?_
    refine hl_get X hK hh (ref := "CycleGroups$Link") i_K (ci := 3) rfl 2 (by decide) w_122 rfl p0 q1_ad0i0 rfl d_K_addGenerator_31 ?_
    refine lv_aload_n X.1 X.2.1 d_K_addGenerator_34 rfl (lv_at hl 0 rfl) ?_
    refine hl_get X hK hh (ref := "CycleGroups$Link") i_K (ci := 3) rfl 1 (by decide) w_121 rfl p0 q1_ad0i0 rfl d_K_addGenerator_35 ?_
    refine lv_iconst (v := nI 0) X.1 X.2.1 d_K_addGenerator_38 (by decide) ?_
    refine hl_iastN X hK hh p3 q1_ad3i0 (by omega) (by omega) d_K_addGenerator_39 (fun H locs hh => ?_)
    obtain ⟨f2, hf2⟩ : ∃ x : Nat → va_E, x = va_up f1 (ad 3 i 0) (hl_nat g (lk_most n i) (va_up pr gn 0)) := ⟨_, rfl⟩
    have hh : hl_H g (hm_A sz L) s.heap L f2 H locs := by rw [hf2]; exact hh
    have q2_ad0i0 := (congrFun hf2 (ad 0 i 0)).trans ((va_up_ne _ _ (hl_ne (T := T) (by rw [(hT 0 0 (by decide) rfl), (hT 3 0 (by decide) rfl)]; omega))).trans q1_ad0i0)
    have q2_ad1i0 := (congrFun hf2 (ad 1 i 0)).trans ((va_up_ne _ _ (hl_ne (T := T) (by rw [(hT 1 0 (by decide) rfl), (hT 3 0 (by decide) rfl)]; omega))).trans q1_ad1i0)
    have q2_ad2ign := (congrFun hf2 (ad 2 i gn)).trans ((va_up_ne _ _ (hl_ne (T := T) (by rw [(hT 2 gn (by decide) (show gn < lk_most n i by omega)), (hT 3 0 (by decide) rfl)]; omega))).trans q1_ad2ign)
    have q2_rw0 := (congrFun hf2 rw0).trans ((va_up_ne _ _ (hl_ne (T := T) (by rw [hTr, (hT 3 0 (by decide) rfl)]; omega))).trans q1_rw0)
    have q2_ad3i0 := (congrFun hf2 (ad 3 i 0)).trans (va_up_self ..)
    refine lv_aload_n X.1 X.2.1 d_K_addGenerator_40 rfl (lv_at hl 0 rfl) ?_
    refine lv_dup X.1 X.2.1 d_K_addGenerator_41 rfl ?_
    refine hl_get X hK hh (ref := "CycleGroups$Link") i_K (ci := 3) rfl 1 (by decide) w_121 rfl p0 q2_ad0i0 rfl d_K_addGenerator_42 ?_
    refine lv_iconst (v := nI 1) X.1 X.2.1 d_K_addGenerator_45 (by decide) ?_
    refine hn_add X d_K_addGenerator_46 ?_
    refine hl_put X hK hh (ref := "CycleGroups$Link") i_K t_K t_K_ok n_K (ci := 3) rfl 1 (by decide) w_121 rfl rfl p0 q2_ad0i0 (by first | rfl | decide) (by first | rfl | decide) (Nat.le_of_ble_eq_true rfl) d_K_addGenerator_47 (fun H locs hh => ?_)
    obtain ⟨f3, hf3⟩ : ∃ x : Nat → va_E, x = va_up f2 (ad 0 i 0) (.inr (3, [.ref (ad 1 i 0), .int (nI (gn + 1)), .ref (ad 3 i 0), .ref (ad 4 i 0), .int (nI sn), .ref (ad 5 i 0), .ref (ad 6 i 0)])) := ⟨_, rfl⟩
    have hh : hl_H g (hm_A sz L) s.heap L f3 H locs := by rw [hf3]; exact hh
    have q3_ad1i0 := (congrFun hf3 (ad 1 i 0)).trans ((va_up_ne _ _ (hl_ne (T := T) (by rw [(hT 1 0 (by decide) rfl), (hT 0 0 (by decide) rfl)]; omega))).trans q2_ad1i0)
    have q3_ad2ign := (congrFun hf3 (ad 2 i gn)).trans ((va_up_ne _ _ (hl_ne (T := T) (by rw [(hT 2 gn (by decide) (show gn < lk_most n i by omega)), (hT 0 0 (by decide) rfl)]; omega))).trans q2_ad2ign)
    have q3_ad3i0 := (congrFun hf3 (ad 3 i 0)).trans ((va_up_ne _ _ (hl_ne (T := T) (by rw [(hT 3 0 (by decide) rfl), (hT 0 0 (by decide) rfl)]; omega))).trans q2_ad3i0)
    have q3_rw0 := (congrFun hf3 rw0).trans ((va_up_ne _ _ (hl_ne (T := T) (by rw [hTr, (hT 0 0 (by decide) rfl)]; omega))).trans q2_rw0)
    have q3_ad0i0 := (congrFun hf3 (ad 0 i 0)).trans (va_up_self ..)
    refine hm_vret X hr hlk hh ⟨_, rfl, ?_, ?_⟩ (Nat.le_of_ble_eq_true rfl) (Nat.le_of_ble_eq_true rfl) d_K_addGenerator_50
    · rw [hf3, hf2, hf1]
      exact lk_up0 hn (lk_up3 hn (lk_up2 hn hP0 hT gn hgm r) hT (va_up pr gn 0)) hT (gn + 1) sn
    · intro q hq
      rw [hf3, lk_fr (k := 0) (j := 0) hT (by decide) rfl (by decide) _ _ q hq, hf2, lk_fr (k := 3) (j := 0) hT (by decide) rfl (by decide) _ _ q hq, hf1, lk_fr (k := 2) (j := gn) hT (by decide) hgm (by omega) _ _ q hq]
  · omega

/-- private void widen(int reached, int[] generator, int[] back), where there is room for one -/
theorem c_K_widen (l : Launch) (g : hl_G) (sz : Nat) (L : List Nat) (f : Nat → va_E) (T : Nat → Nat) (ad : Nat → Nat → Nat → Nat) (n i gn : Nat) (G : Nat → Nat → Nat) (pr : Nat → Nat) (sn : Nat) (sp : Nat → Nat) (ix : Nat → Option Nat) (wb : Nat → Nat → Nat)
    (hP : lk_P g L f ad n i gn G pr sn sp ix wb) (hn : n ≤ 24) (hT : lk_T T ad n i) (k s0 q0 : Nat) (hk : k < lk_most n i) (hs : s0 < sn) (hsn : sn < n - i) (hq0 : q0 < n) (g1 : gp_f) (hgi : gp_inv (G k) g1)
    (hGn : ∀ p, p < n ↔ G k p < n) (hwn : ∀ p, p < n → wb s0 p < n) :
    Met l y_K_widen (hq y_K_widen b_K_widen 6 none) { frames := 0, cells := 0, slots := 0, locals := 0 } (hm_P g [.ref (ad 0 i 0), .int (nI q0), .ref (ad 2 i k), .ref (ad 7 i s0)] sz L f) (va_Qv (fun u => ∃ f1, u = (L, f1) ∧ lk_P g L f1 ad n i gn G pr (sn + 1) (va_up sp sn q0) (va_up ix q0 (some sn)) (va_up wb sn (wb s0 ∘ g1)) ∧ ∀ q, ¬ lk_tag i (T q) → f1 q = f q) (hm_B g sz L) (hm_A sz L)) 0 0 (hm_A sz L) := by
  have hP0 := hP
  have hqn := hq0
  obtain ⟨⟨p0, q0'⟩, ⟨p1, q1⟩, hg, ⟨p3, q3⟩, ⟨p4, q4⟩, ⟨p5, q5⟩, ⟨p6, q6⟩, hw⟩ := hP
  have hmo : lk_most n i ≤ 36 := by unfold lk_most; omega
  obtain ⟨pg, qg⟩ := hg k hk
  obtain ⟨pb, qb⟩ := hw s0 (by omega)
  obtain ⟨pw, qw⟩ := hw sn hsn
  refine hm_ofW (by decide) (Nat.le_of_ble_eq_true rfl) ?_
  intro p e s m below meth c X hr hlk hnm hK hsz hh ls hl
  have hl : lv_has ls 6 [(0, .ref (ad 0 i 0)), (1, .int (nI q0)), (2, .ref (ad 2 i k)), (3, .ref (ad 7 i s0))] := hl
  have loop : ∀ (t j : Nat) (y : Nat → Nat) (H : Heap) (locs : List Loc) (ls : Array Slot), n + 1 ≤ j + t → j ≤ n → (∀ p, p < j → y (G k p) = wb s0 p) →
      hl_H g (hm_A sz L) s.heap L (va_up f (ad 7 i sn) (hl_nat g n y)) H locs → lv_has ls 6 [(5, .int (nI j)), (4, .ref (ad 7 i sn)), (0, .ref (ad 0 i 0)), (1, .int (nI q0)), (2, .ref (ad 2 i k)), (3, .ref (ad 7 i s0))] →
      W p l e { frames := 0, cells := 0, slots := 0, locals := 0 } s m #[.ref (ad 0 i 0), .int (nI q0), .ref (ad 2 i k), .ref (ad 7 i s0)] below meth c H locs 0 0 (MQ below (va_Qv (fun u => ∃ f1, u = (L, f1) ∧ lk_P g L f1 ad n i gn G pr (sn + 1) (va_up sp sn q0) (va_up ix q0 (some sn)) (va_up wb sn (wb s0 ∘ g1)) ∧ ∀ q, ¬ lk_tag i (T q) → f1 q = f q) (hm_B g sz L) (hm_A sz L)) #[.ref (ad 0 i 0), .int (nI q0), .ref (ad 2 i k), .ref (ad 7 i s0)] s 0 0 (hm_A sz L)) (F0 m 27 ls []) := by
    intro t
    induction t with
    | zero => intros; omega
    | succ t ih =>
      intro j y H locs ls hkj hjn hy hh hl
      have ng : ad 2 i k ≠ ad 7 i sn := hl_ne (T := T) (by rw [hT 2 k (by decide) (show k < lk_most n i by omega), hT 7 sn (by decide) (show sn < n - i by omega)]; omega)
      have nb : ad 7 i s0 ≠ ad 7 i sn := hl_ne (T := T) (by rw [hT 7 s0 (by decide) (show s0 < n - i by omega), hT 7 sn (by decide) (show sn < n - i by omega)]; omega)
      refine lv_iload X.1 X.2.1 d_K_widen_27 (lv_at hl 0 rfl) ?_
      refine lv_aload X.1 X.2.1 d_K_widen_29 (lv_at hl 1 rfl) ?_
      refine hl_alenI X hK hh pw (va_up_self ..) d_K_widen_31 ?_
      refine hn_ige (tgt := 52) X (by omega) (by omega) d_K_widen_32 (by decide) (fun hc => ?_) (fun hc => ?_)
      · have hh := hl_norm (w := fun p => nI ((wb s0 ∘ g1) p)) hh (fun p hp => by
          have h1 : g1 p < n := (hGn (g1 p)).2 (by rw [hgi.1]; exact hp)
          have h2 := hy (g1 p) (by omega)
          rw [hgi.1] at h2
          rw [h2]; rfl)
        obtain ⟨f1, hf1⟩ : ∃ x : Nat → va_E, x = va_up f (ad 7 i sn) (hl_nat g n (wb s0 ∘ g1)) := ⟨_, rfl⟩
        have hh : hl_H g (hm_A sz L) s.heap L f1 H locs := by rw [hf1]; exact hh
        have q1_ad0i0 := (congrFun hf1 (ad 0 i 0)).trans ((va_up_ne _ _ (hl_ne (T := T) (by rw [(hT 0 0 (by decide) rfl), (hT 7 sn (by decide) (show sn < n - i by omega))]; omega))).trans q0')
        have q1_ad4i0 := (congrFun hf1 (ad 4 i 0)).trans ((va_up_ne _ _ (hl_ne (T := T) (by rw [(hT 4 0 (by decide) rfl), (hT 7 sn (by decide) (show sn < n - i by omega))]; omega))).trans q4)
        have q1_ad5i0 := (congrFun hf1 (ad 5 i 0)).trans ((va_up_ne _ _ (hl_ne (T := T) (by rw [(hT 5 0 (by decide) rfl), (hT 7 sn (by decide) (show sn < n - i by omega))]; omega))).trans q5)
        have q1_ad7isn := (congrFun hf1 (ad 7 i sn)).trans (va_up_self ..)
        refine lv_aload_n X.1 X.2.1 d_K_widen_52 rfl (lv_at hl 2 rfl) ?_
        refine hl_get X hK hh (ref := "CycleGroups$Link") i_K (ci := 3) rfl 3 (by decide) w_123 rfl p0 q1_ad0i0 rfl d_K_widen_53 ?_
        refine lv_aload_n X.1 X.2.1 d_K_widen_56 rfl (lv_at hl 2 rfl) ?_
        refine hl_get X hK hh (ref := "CycleGroups$Link") i_K (ci := 3) rfl 4 (by decide) w_124 rfl p0 q1_ad0i0 rfl d_K_widen_57 ?_
        refine lv_iload_n X.1 X.2.1 d_K_widen_60 rfl (lv_at hl 3 rfl) ?_
        refine hl_iastN X hK hh p4 q1_ad4i0 (by omega) (by omega) d_K_widen_61 (fun H locs hh => ?_)
        obtain ⟨f2, hf2⟩ : ∃ x : Nat → va_E, x = va_up f1 (ad 4 i 0) (hl_nat g (n - i) (va_up sp sn q0)) := ⟨_, rfl⟩
        have hh : hl_H g (hm_A sz L) s.heap L f2 H locs := by rw [hf2]; exact hh
        have q2_ad7isn := (congrFun hf2 (ad 7 i sn)).trans ((va_up_ne _ _ (hl_ne (T := T) (by rw [(hT 7 sn (by decide) (show sn < n - i by omega)), (hT 4 0 (by decide) rfl)]; omega))).trans q1_ad7isn)
        have q2_ad0i0 := (congrFun hf2 (ad 0 i 0)).trans ((va_up_ne _ _ (hl_ne (T := T) (by rw [(hT 0 0 (by decide) rfl), (hT 4 0 (by decide) rfl)]; omega))).trans q1_ad0i0)
        have q2_ad5i0 := (congrFun hf2 (ad 5 i 0)).trans ((va_up_ne _ _ (hl_ne (T := T) (by rw [(hT 5 0 (by decide) rfl), (hT 4 0 (by decide) rfl)]; omega))).trans q1_ad5i0)
        have q2_ad4i0 := (congrFun hf2 (ad 4 i 0)).trans (va_up_self ..)
        refine lv_aload_n X.1 X.2.1 d_K_widen_62 rfl (lv_at hl 2 rfl) ?_
        refine hl_get X hK hh (ref := "CycleGroups$Link") i_K (ci := 3) rfl 5 (by decide) w_125 rfl p0 q2_ad0i0 rfl d_K_widen_63 ?_
        refine lv_iload_n X.1 X.2.1 d_K_widen_66 rfl (lv_at hl 3 rfl) ?_
        refine lv_aload_n X.1 X.2.1 d_K_widen_67 rfl (lv_at hl 2 rfl) ?_
        refine hl_get X hK hh (ref := "CycleGroups$Link") i_K (ci := 3) rfl 4 (by decide) w_124 rfl p0 q2_ad0i0 rfl d_K_widen_68 ?_
        refine hl_iast X hK hh p5 q2_ad5i0 (by omega) (by omega) d_K_widen_71 (fun H locs hh => ?_)
        obtain ⟨f3, hf3⟩ : ∃ x : Nat → va_E, x = va_up f2 (ad 5 i 0) (hl_row g n (va_up (fun p => oI (ix p)) q0 (nI sn))) := ⟨_, rfl⟩
        have hh : hl_H g (hm_A sz L) s.heap L f3 H locs := by rw [hf3]; exact hh
        have q3_ad7isn := (congrFun hf3 (ad 7 i sn)).trans ((va_up_ne _ _ (hl_ne (T := T) (by rw [(hT 7 sn (by decide) (show sn < n - i by omega)), (hT 5 0 (by decide) rfl)]; omega))).trans q2_ad7isn)
        have q3_ad0i0 := (congrFun hf3 (ad 0 i 0)).trans ((va_up_ne _ _ (hl_ne (T := T) (by rw [(hT 0 0 (by decide) rfl), (hT 5 0 (by decide) rfl)]; omega))).trans q2_ad0i0)
        have q3_ad4i0 := (congrFun hf3 (ad 4 i 0)).trans ((va_up_ne _ _ (hl_ne (T := T) (by rw [(hT 4 0 (by decide) rfl), (hT 5 0 (by decide) rfl)]; omega))).trans q2_ad4i0)
        have q3_ad5i0 := (congrFun hf3 (ad 5 i 0)).trans (va_up_self ..)
        refine lv_aload_n X.1 X.2.1 d_K_widen_72 rfl (lv_at hl 2 rfl) ?_
        refine lv_dup X.1 X.2.1 d_K_widen_73 rfl ?_
        refine hl_get X hK hh (ref := "CycleGroups$Link") i_K (ci := 3) rfl 4 (by decide) w_124 rfl p0 q3_ad0i0 rfl d_K_widen_74 ?_
        refine lv_iconst (v := nI 1) X.1 X.2.1 d_K_widen_77 (by decide) ?_
        refine hn_add X d_K_widen_78 ?_
        refine hl_put X hK hh (ref := "CycleGroups$Link") i_K t_K t_K_ok n_K (ci := 3) rfl 4 (by decide) w_124 rfl rfl p0 q3_ad0i0 (by first | rfl | decide) (by first | rfl | decide) (Nat.le_of_ble_eq_true rfl) d_K_widen_79 (fun H locs hh => ?_)
        obtain ⟨f4, hf4⟩ : ∃ x : Nat → va_E, x = va_up f3 (ad 0 i 0) (.inr (3, [.ref (ad 1 i 0), .int (nI gn), .ref (ad 3 i 0), .ref (ad 4 i 0), .int (nI (sn + 1)), .ref (ad 5 i 0), .ref (ad 6 i 0)])) := ⟨_, rfl⟩
        have hh : hl_H g (hm_A sz L) s.heap L f4 H locs := by rw [hf4]; exact hh
        have q4_ad7isn := (congrFun hf4 (ad 7 i sn)).trans ((va_up_ne _ _ (hl_ne (T := T) (by rw [(hT 7 sn (by decide) (show sn < n - i by omega)), (hT 0 0 (by decide) rfl)]; omega))).trans q3_ad7isn)
        have q4_ad4i0 := (congrFun hf4 (ad 4 i 0)).trans ((va_up_ne _ _ (hl_ne (T := T) (by rw [(hT 4 0 (by decide) rfl), (hT 0 0 (by decide) rfl)]; omega))).trans q3_ad4i0)
        have q4_ad5i0 := (congrFun hf4 (ad 5 i 0)).trans ((va_up_ne _ _ (hl_ne (T := T) (by rw [(hT 5 0 (by decide) rfl), (hT 0 0 (by decide) rfl)]; omega))).trans q3_ad5i0)
        have q4_ad0i0 := (congrFun hf4 (ad 0 i 0)).trans (va_up_self ..)
        refine hm_vret X hr hlk hh ⟨_, rfl, ?_, ?_⟩ (Nat.le_of_ble_eq_true rfl) (Nat.le_of_ble_eq_true rfl) d_K_widen_82
        · rw [hf4, hf3, hr_upo, hf2, hf1]
          exact lk_up0 hn (lk_up5 hn (lk_up4 hn (lk_up7 hn hP0 hT sn hsn (wb s0 ∘ g1)) hT (va_up sp sn q0)) hT (va_up ix q0 (some sn))) hT gn (sn + 1)
        · intro q hq
          rw [hf4, lk_fr (k := 0) (j := 0) hT (by decide) rfl (by decide) _ _ q hq, hf3, lk_fr (k := 5) (j := 0) hT (by decide) rfl (by decide) _ _ q hq, hf2, lk_fr (k := 4) (j := 0) hT (by decide) rfl (by decide) _ _ q hq, hf1, lk_fr (k := 7) (j := sn) hT (by decide) hsn (by omega) _ _ q hq]
      · have h1 := (hGn j).1 hc
        have h2 := hwn j hc
        refine lv_aload X.1 X.2.1 d_K_widen_35 (lv_at hl 1 rfl) ?_
        refine lv_aload_n X.1 X.2.1 d_K_widen_37 rfl (lv_at hl 4 rfl) ?_
        refine lv_iload X.1 X.2.1 d_K_widen_38 (lv_at hl 0 rfl) ?_
        refine hl_iald X hK hh pg ((va_up_ne _ _ ng).trans qg) (by omega) (by omega) d_K_widen_40 ?_
        refine lv_aload_n X.1 X.2.1 d_K_widen_41 rfl (lv_at hl 5 rfl) ?_
        refine lv_iload X.1 X.2.1 d_K_widen_42 (lv_at hl 0 rfl) ?_
        refine hl_iald X hK hh pb ((va_up_ne _ _ nb).trans qb) (by omega) (by omega) d_K_widen_44 ?_
        refine hl_iastN X hK hh pw (va_up_self ..) (by omega) (by omega) d_K_widen_45 (fun H locs hh => ?_)
        rw [hr_uu] at hh
        refine lv_iinc (v := nI (j + 1)) (lv' := [(5, .int (nI (j + 1))), (4, .ref (ad 7 i sn)), (0, .ref (ad 0 i 0)), (1, .int (nI q0)), (2, .ref (ad 2 i k)), (3, .ref (ad 7 i s0))]) X.1 X.2.1 d_K_widen_46 hl (k := 0) rfl (hn_inc _) (by decide) rfl (fun ls hl => ?_)
        refine lv_goto (tgt := 27) X.1 X.2.1 d_K_widen_49 (by decide) ?_
        refine ih (j + 1) (va_up y (G k j) (wb s0 j)) H locs ls (by omega) (by omega) (fun p hp => ?_) hh hl
        by_cases e1 : p = j
        · rw [e1, va_up_self]
        · rw [va_up_ne _ _ (fun e2 => e1 (gp_inv_inj hgi e2))]; exact hy p (by omega)
  refine lv_aload_n X.1 X.2.1 d_K_widen_0 rfl (lv_at hl 0 rfl) ?_
  refine hl_get X hK hh (ref := "CycleGroups$Link") i_K (ci := 3) rfl 4 (by decide) w_124 rfl p0 q0' rfl d_K_widen_1 ?_
  refine lv_aload_n X.1 X.2.1 d_K_widen_4 rfl (lv_at hl 0 rfl) ?_
  refine hl_get X hK hh (ref := "CycleGroups$Link") i_K (ci := 3) rfl 3 (by decide) w_123 rfl p0 q0' rfl d_K_widen_5 ?_
  refine hl_alenI X hK hh p4 q4 d_K_widen_8 ?_
  refine hn_ilt (tgt := 13) X (by omega) (by omega) d_K_widen_9 (by decide) (fun hc => ?_) (fun hc => ?_)
  · skip
    refine lv_aload_n X.1 X.2.1 d_K_widen_13 rfl (lv_at hl 0 rfl) ?_
    refine hl_get X hK hh (ref := "CycleGroups$Link") i_K (ci := 3) rfl 6 (by decide) w_126 rfl p0 q0' rfl d_K_widen_14 ?_
    refine lv_aload_n X.1 X.2.1 d_K_widen_17 rfl (lv_at hl 0 rfl) ?_
    refine hl_get X hK hh (ref := "CycleGroups$Link") i_K (ci := 3) rfl 4 (by decide) w_124 rfl p0 q0' rfl d_K_widen_18 ?_
    refine hl_aaldG X hK hh p6 q6 (by omega) (by omega) (if_pos hsn) d_K_widen_21 ?_
    refine lv_astore (lv' := [(4, .ref (ad 7 i sn)), (0, .ref (ad 0 i 0)), (1, .int (nI q0)), (2, .ref (ad 2 i k)), (3, .ref (ad 7 i s0))]) X.1 X.2.1 d_K_widen_22 hl (by decide) rfl (fun ls hl => ?_)
    refine lv_iconst (v := nI 0) X.1 X.2.1 d_K_widen_24 (by decide) ?_
    refine lv_istore (lv' := [(5, .int (nI 0)), (4, .ref (ad 7 i sn)), (0, .ref (ad 0 i 0)), (1, .int (nI q0)), (2, .ref (ad 2 i k)), (3, .ref (ad 7 i s0))]) X.1 X.2.1 d_K_widen_25 hl (by decide) rfl (fun ls hl => ?_)
    exact loop (n + 1) 0 (wb sn) s.heap [] ls (by omega) (by omega) (fun p hp => absurd hp (Nat.not_lt_zero _)) (hl_same qw hh) hl
  · omega
end
end
section
/-! Link: reachesNewPlace, clear. -/
section
theorem lk_congr {g : hl_G} {L : List Nat} {f f1 : Nat → va_E} {T : Nat → Nat} {ad : Nat → Nat → Nat → Nat} {n i gn : Nat} {G : Nat → Nat → Nat} {pr : Nat → Nat} {sn : Nat} {sp : Nat → Nat} {ix : Nat → Option Nat} {wb : Nat → Nat → Nat}
    (hn : n ≤ 24) (hP : lk_P g L f ad n i gn G pr sn sp ix wb) (hT : lk_T T ad n i) (h : ∀ q, lk_tag i (T q) → f1 q = f q) : lk_P g L f1 ad n i gn G pr sn sp ix wb := by
  have hmo : lk_most n i ≤ 36 := by unfold lk_most; omega
  have hk : ∀ k j, k < 8 → lk_j n i k j → f1 (ad k i j) = f (ad k i j) := fun k j h1 h2 => h _ ⟨k, j, h1, lk_j64 hn h2, hT k j h1 h2⟩
  obtain ⟨⟨p0, q0⟩, ⟨p1, q1⟩, hg, ⟨p3, q3⟩, ⟨p4, q4⟩, ⟨p5, q5⟩, ⟨p6, q6⟩, hw⟩ := hP
  exact ⟨⟨p0, (hk 0 0 (by decide) rfl).trans q0⟩, ⟨p1, (hk 1 0 (by decide) rfl).trans q1⟩, fun j hj => ⟨(hg j hj).1, (hk 2 j (by decide) hj).trans (hg j hj).2⟩,
    ⟨p3, (hk 3 0 (by decide) rfl).trans q3⟩, ⟨p4, (hk 4 0 (by decide) rfl).trans q4⟩, ⟨p5, (hk 5 0 (by decide) rfl).trans q5⟩, ⟨p6, (hk 6 0 (by decide) rfl).trans q6⟩,
    fun j hj => ⟨(hw j hj).1, (hk 7 j (by decide) hj).trans (hw j hj).2⟩⟩

theorem lk_tag_lt {i t : Nat} (h : lk_tag i t) : 100 ≤ t := by
  obtain ⟨k, j, _, _, e⟩ := h
  omega

theorem lk_inj {n i gn : Nat} {G : Nat → Nat → Nat} {pr : Nat → Nat} {sn : Nat} {sp : Nat → Nat} {ix : Nat → Option Nat} {wb : Nat → Nat → Nat} (hW : lk_W n i gn G pr sn sp ix wb) :
    ∀ s t, s < sn → t < sn → sp s = sp t → s = t := by
  intro s t hs ht e
  obtain ⟨_, _, _, _, _, _, _, hsp, hix, _, _⟩ := hW
  have h1 := (hix (sp s) (hsp s hs).2 s).2 ⟨hs, rfl⟩
  have h2 := (hix (sp s) (hsp s hs).2 t).2 ⟨ht, e.symm⟩
  rw [h1] at h2
  exact Option.some.inj h2

/-- a place of the link's that isn't in the spread: there is room -/
theorem lk_room {n i gn : Nat} {G : Nat → Nat → Nat} {pr : Nat → Nat} {sn : Nat} {sp : Nat → Nat} {ix : Nat → Option Nat} {wb : Nat → Nat → Nat} (hW : lk_W n i gn G pr sn sp ix wb)
    {q : Nat} (hqi : i ≤ q) (hqn : q < n) (hx : ix q = none) : sn < n - i := by
  have hi := lk_inj hW
  obtain ⟨_, _, _, _, _, _, _, hsp, hix, _, _⟩ := hW
  have h1 : (q :: (List.range sn).map sp).Nodup := by
    rw [List.nodup_cons]
    refine ⟨fun hm => ?_, gp_nodup_map List.nodup_range (fun s t hs ht e => hi s t (List.mem_range.1 hs) (List.mem_range.1 ht) e)⟩
    obtain ⟨s, hs, e⟩ := List.mem_map.1 hm
    have := (hix q hqn s).2 ⟨List.mem_range.1 hs, e⟩
    rw [hx] at this
    cases this
  have h2 := List.Nodup.length_le_of_subset (l₂ := ch_D n i) h1 (by
    intro x hx
    rcases List.mem_cons.1 hx with rfl | hx
    · exact ch_D_mem.2 ⟨hqi, hqn⟩
    · obtain ⟨s, hs, rfl⟩ := List.mem_map.1 hx
      exact ch_D_mem.2 (hsp s (List.mem_range.1 hs)))
  rw [ch_D_len, List.length_cons, List.length_map, List.length_range] at h2
  omega

theorem lk_sym_iff {n i p : Nat} {a : gp_f} (h : gp_sym (ch_D n i) a) : p < n ↔ a p < n := by
  constructor
  · exact lk_sym_lt h
  · intro hp
    by_cases hpn : p < n
    · exact hpn
    · rw [h.2 p (fun hm => hpn (ch_D_mem.1 hm).2)] at hp
      exact hp

/-- boolean reachesNewPlace(int g, int[] round), of an open generator -/
theorem c_K_reaches (l : Launch) (g : hl_G) (sz : Nat) (L : List Nat) (f : Nat → va_E) (T : Nat → Nat) (ad : Nat → Nat → Nat → Nat) (n i gn : Nat) (G : Nat → Nat → Nat) (pr : Nat → Nat) (sn : Nat) (sp : Nat → Nat) (ix : Nat → Option Nat) (wb : Nat → Nat → Nat)
    (hP : lk_P g L f ad n i gn G pr sn sp ix wb) (hW : lk_W n i gn G pr sn sp ix wb) (hT : lk_T T ad n i) (k : Nat) (hk : k < gn) (hpk : pr k < sn) (g1 b1 : gp_f) (hgi : gp_inv (G k) g1) (hbi : gp_inv (wb (pr k)) b1)
    (rw0 : Nat) (y0 : Nat → Nat) (hr0 : rw0 ∈ L) (hfr : f rw0 = hl_nat g n y0) (hTr : T rw0 = 9) :
    Met l y_K_reachesNewPlace (hq y_K_reachesNewPlace b_K_reachesNewPlace 9 (some .boolean)) { frames := 1, cells := 0, slots := 0, locals := 60 } (hm_P g [.ref (ad 0 i 0), .int (nI k), .ref rw0] sz L f) (va_Qi (fun v u => (ix (G k (sp (pr k))) = none ∧ v = nI 1 ∧ ∃ f1, u = (L, f1) ∧ lk_P g L f1 ad n i gn G (va_up pr k (pr k + 1)) (sn + 1) (va_up sp sn (G k (sp (pr k)))) (va_up ix (G k (sp (pr k))) (some sn)) (va_up wb sn (wb (pr k) ∘ g1)) ∧ ∀ q, ¬ lk_tag i (T q) → f1 q = f q) ∨ (∃ t, ix (G k (sp (pr k))) = some t ∧ v = nI 0 ∧ ∃ f1, u = (L, va_up f1 rw0 (hl_nat g n (wb t ∘ G k ∘ b1))) ∧ lk_P g L f1 ad n i gn G (va_up pr k (pr k + 1)) sn sp ix wb ∧ ∀ q, ¬ lk_tag i (T q) → f1 q = f q)) (hm_B g sz L) (hm_A sz L)) 0 0 (hm_A sz L) := by
  have hP0 := hP
  have hW0 := hW
  obtain ⟨⟨p0, q0⟩, ⟨p1, q1⟩, hg, ⟨p3, q3⟩, ⟨p4, q4⟩, ⟨p5, q5⟩, ⟨p6, q6⟩, hw⟩ := hP
  obtain ⟨h24, hin, hgn, hG, hsn0, hsn, hsp0, hsp, hix, hwb, hpr⟩ := hW
  have hmo : lk_most n i ≤ 36 := by unfold lk_most; omega
  obtain ⟨pg, qg⟩ := hg k (by omega)
  obtain ⟨pb, qb⟩ := hw (pr k) (by omega)
  have hspk := hsp (pr k) hpk
  have hqD := ch_D_mem.1 (gp_sym_mem (hG k hk) (ch_D_mem.2 hspk))
  have hGk := hG k hk
  have hwk := hwb (pr k) hpk
  refine hm_ofW (by decide) (Nat.le_of_ble_eq_true rfl) ?_
  intro p e s m below meth c X hr hlk hnm hK hsz hh ls hl
  have hl : lv_has ls 9 [(0, .ref (ad 0 i 0)), (1, .int (nI k)), (2, .ref rw0)] := hl
  refine lv_aload_n X.1 X.2.1 d_K_reachesNewPlace_0 rfl (lv_at hl 0 rfl) ?_
  refine hl_get X hK hh (ref := "CycleGroups$Link") i_K (ci := 3) rfl 0 (by decide) w_120 rfl p0 q0 rfl d_K_reachesNewPlace_1 ?_
  refine lv_iload_n X.1 X.2.1 d_K_reachesNewPlace_4 rfl (lv_at hl 1 rfl) ?_
  refine hl_aaldG X hK hh p1 q1 (by omega) (by omega) (if_pos (by omega)) d_K_reachesNewPlace_5 ?_
  refine lv_astore_n (lv' := [(3, .ref (ad 2 i k)), (0, .ref (ad 0 i 0)), (1, .int (nI k)), (2, .ref rw0)]) X.1 X.2.1 d_K_reachesNewPlace_6 rfl hl (by decide) rfl (fun ls hl => ?_)
  refine lv_aload_n X.1 X.2.1 d_K_reachesNewPlace_7 rfl (lv_at hl 1 rfl) ?_
  refine hl_get X hK hh (ref := "CycleGroups$Link") i_K (ci := 3) rfl 6 (by decide) w_126 rfl p0 q0 rfl d_K_reachesNewPlace_8 ?_
  refine lv_aload_n X.1 X.2.1 d_K_reachesNewPlace_11 rfl (lv_at hl 1 rfl) ?_
  refine hl_get X hK hh (ref := "CycleGroups$Link") i_K (ci := 3) rfl 2 (by decide) w_122 rfl p0 q0 rfl d_K_reachesNewPlace_12 ?_
  refine lv_iload_n X.1 X.2.1 d_K_reachesNewPlace_15 rfl (lv_at hl 2 rfl) ?_
  refine hl_iald X hK hh p3 q3 (by omega) (by omega) d_K_reachesNewPlace_16 ?_
  refine hl_aaldG X hK hh p6 q6 (by omega) (by omega) (if_pos (by omega)) d_K_reachesNewPlace_17 ?_
  refine lv_astore (lv' := [(4, .ref (ad 7 i (pr k))), (3, .ref (ad 2 i k)), (0, .ref (ad 0 i 0)), (1, .int (nI k)), (2, .ref rw0)]) X.1 X.2.1 d_K_reachesNewPlace_18 hl (by decide) rfl (fun ls hl => ?_)
  refine lv_aload_n X.1 X.2.1 d_K_reachesNewPlace_20 rfl (lv_at hl 1 rfl) ?_
  refine lv_aload_n X.1 X.2.1 d_K_reachesNewPlace_21 rfl (lv_at hl 2 rfl) ?_
  refine hl_get X hK hh (ref := "CycleGroups$Link") i_K (ci := 3) rfl 3 (by decide) w_123 rfl p0 q0 rfl d_K_reachesNewPlace_22 ?_
  refine lv_aload_n X.1 X.2.1 d_K_reachesNewPlace_25 rfl (lv_at hl 2 rfl) ?_
  refine hl_get X hK hh (ref := "CycleGroups$Link") i_K (ci := 3) rfl 2 (by decide) w_122 rfl p0 q0 rfl d_K_reachesNewPlace_26 ?_
  refine lv_iload_n X.1 X.2.1 d_K_reachesNewPlace_29 rfl (lv_at hl 3 rfl) ?_
  refine hl_iald X hK hh p3 q3 (by omega) (by omega) d_K_reachesNewPlace_30 ?_
  refine hl_iald X hK hh p4 q4 (by omega) (by omega) d_K_reachesNewPlace_31 ?_
  refine hl_iald X hK hh pg qg (by omega) (by omega) d_K_reachesNewPlace_32 ?_
  refine lv_istore (lv' := [(5, .int (nI ((G k) (sp (pr k))))), (4, .ref (ad 7 i (pr k))), (3, .ref (ad 2 i k)), (0, .ref (ad 0 i 0)), (1, .int (nI k)), (2, .ref rw0)]) X.1 X.2.1 d_K_reachesNewPlace_33 hl (by decide) rfl (fun ls hl => ?_)
  refine lv_aload_n X.1 X.2.1 d_K_reachesNewPlace_35 rfl (lv_at hl 3 rfl) ?_
  refine hl_get X hK hh (ref := "CycleGroups$Link") i_K (ci := 3) rfl 2 (by decide) w_122 rfl p0 q0 rfl d_K_reachesNewPlace_36 ?_
  refine lv_iload_n X.1 X.2.1 d_K_reachesNewPlace_39 rfl (lv_at hl 4 rfl) ?_
  refine lv_dup2_11 X.1 X.2.1 d_K_reachesNewPlace_40 rfl rfl ?_
  refine hl_iald X hK hh p3 q3 (by omega) (by omega) d_K_reachesNewPlace_41 ?_
  refine lv_iconst (v := nI 1) X.1 X.2.1 d_K_reachesNewPlace_42 (by decide) ?_
  refine hn_add X d_K_reachesNewPlace_43 ?_
  refine hl_iastN X hK hh p3 q3 (by omega) (by omega) d_K_reachesNewPlace_44 (fun H locs hh => ?_)
  obtain ⟨f1, hf1⟩ : ∃ x : Nat → va_E, x = va_up f (ad 3 i 0) (hl_nat g (lk_most n i) (va_up pr k ((pr k) + 1))) := ⟨_, rfl⟩
  have hh : hl_H g (hm_A sz L) s.heap L f1 H locs := by rw [hf1]; exact hh
  have q1_ad0i0 := (congrFun hf1 (ad 0 i 0)).trans ((va_up_ne _ _ (hl_ne (T := T) (by rw [(hT 0 0 (by decide) rfl), (hT 3 0 (by decide) rfl)]; omega))).trans q0)
  have q1_ad1i0 := (congrFun hf1 (ad 1 i 0)).trans ((va_up_ne _ _ (hl_ne (T := T) (by rw [(hT 1 0 (by decide) rfl), (hT 3 0 (by decide) rfl)]; omega))).trans q1)
  have q1_ad2ik := (congrFun hf1 (ad 2 i k)).trans ((va_up_ne _ _ (hl_ne (T := T) (by rw [(hT 2 k (by decide) (show k < lk_most n i by omega)), (hT 3 0 (by decide) rfl)]; omega))).trans qg)
  have q1_ad4i0 := (congrFun hf1 (ad 4 i 0)).trans ((va_up_ne _ _ (hl_ne (T := T) (by rw [(hT 4 0 (by decide) rfl), (hT 3 0 (by decide) rfl)]; omega))).trans q4)
  have q1_ad5i0 := (congrFun hf1 (ad 5 i 0)).trans ((va_up_ne _ _ (hl_ne (T := T) (by rw [(hT 5 0 (by decide) rfl), (hT 3 0 (by decide) rfl)]; omega))).trans q5)
  have q1_ad6i0 := (congrFun hf1 (ad 6 i 0)).trans ((va_up_ne _ _ (hl_ne (T := T) (by rw [(hT 6 0 (by decide) rfl), (hT 3 0 (by decide) rfl)]; omega))).trans q6)
  have q1_ad7iprk := (congrFun hf1 (ad 7 i (pr k))).trans ((va_up_ne _ _ (hl_ne (T := T) (by rw [(hT 7 (pr k) (by decide) (show (pr k) < n - i by omega)), (hT 3 0 (by decide) rfl)]; omega))).trans qb)
  have q1_rw0 := (congrFun hf1 rw0).trans ((va_up_ne _ _ (hl_ne (T := T) (by rw [hTr, (hT 3 0 (by decide) rfl)]; omega))).trans hfr)
  have q1_ad3i0 := (congrFun hf1 (ad 3 i 0)).trans (va_up_self ..)
  refine lv_aload_n X.1 X.2.1 d_K_reachesNewPlace_45 rfl (lv_at hl 3 rfl) ?_
  refine hl_get X hK hh (ref := "CycleGroups$Link") i_K (ci := 3) rfl 5 (by decide) w_125 rfl p0 q1_ad0i0 rfl d_K_reachesNewPlace_46 ?_
  refine lv_iload X.1 X.2.1 d_K_reachesNewPlace_49 (lv_at hl 0 rfl) ?_
  refine hl_iald X hK hh p5 q1_ad5i0 (by omega) (by omega) d_K_reachesNewPlace_51 ?_
  refine lv_istore (lv' := [(6, .int (oI (ix ((G k) (sp (pr k)))))), (5, .int (nI ((G k) (sp (pr k))))), (4, .ref (ad 7 i (pr k))), (3, .ref (ad 2 i k)), (0, .ref (ad 0 i 0)), (1, .int (nI k)), (2, .ref rw0)]) X.1 X.2.1 d_K_reachesNewPlace_52 hl (by decide) rfl (fun ls hl => ?_)
  have hP1 : lk_P g L f1 ad n i gn G (va_up pr k (pr k + 1)) sn sp ix wb := by rw [hf1]; exact lk_up3 h24 hP0 hT (va_up pr k (pr k + 1))
  have hfr1 : ∀ q, ¬ lk_tag i (T q) → f1 q = f q := by rw [hf1]; exact lk_fr (k := 3) (j := 0) hT (by decide) rfl (by decide) _ _
  rcases (show ix (G k (sp (pr k))) = none ∨ ∃ t, ix (G k (sp (pr k))) = some t by cases ix (G k (sp (pr k))) <;> simp) with hx | ⟨t, hx⟩
  · have e1 : oI (ix (G k (sp (pr k)))) = -1 := by rw [hx]; rfl
    rw [e1] at hl
    refine lv_iload X.1 X.2.1 d_K_reachesNewPlace_54 (lv_at hl 0 rfl) ?_
    refine lv_if_ge (tgt := 70) X.1 X.2.1 d_K_reachesNewPlace_56 (by decide) (fun hc => ?_) (fun hc => ?_)
    · exact absurd hc (by decide)
    · skip
      refine lv_aload_n X.1 X.2.1 d_K_reachesNewPlace_59 rfl (lv_at hl 4 rfl) ?_
      refine lv_iload X.1 X.2.1 d_K_reachesNewPlace_60 (lv_at hl 1 rfl) ?_
      refine lv_aload_n X.1 X.2.1 d_K_reachesNewPlace_62 rfl (lv_at hl 3 rfl) ?_
      refine lv_aload X.1 X.2.1 d_K_reachesNewPlace_63 (lv_at hl 2 rfl) ?_
      refine hl_callv hh (hl_runV (k := 3) X hK hh (c_K_widen l g _ L f1 T ad n i gn G _ sn sp ix wb hP1 h24 hT k (pr k) (G k (sp (pr k))) (by omega) hpk (lk_room hW0 hqD.1 hqD.2 hx) hqD.2 g1 hgi (fun p => lk_sym_iff hGk) (fun p hp => lk_sym_lt hwk hp)) wc_K_widen w_197 w_7 wi_K_widen ws_K_widen (by decide +kernel) rfl rfl ⟨Nat.le_of_ble_eq_true rfl, Nat.le_of_ble_eq_true rfl⟩ p0 q1_ad0i0 rfl rfl rfl rfl (Nat.le_of_ble_eq_true rfl) hl.1 d_K_reachesNewPlace_65 ⟨Nat.le_of_ble_eq_true rfl, Nat.le_of_ble_eq_true rfl⟩) (fun u H locs hp hh => ?_)
      obtain ⟨f2, rfl, hP2, hfr2⟩ := hp
      refine lv_iconst (v := nI 1) X.1 X.2.1 d_K_reachesNewPlace_68 (by decide) ?_
      exact hm_zret X hr hlk hh (Or.inr rfl) (Or.inl ⟨hx, rfl, f2, rfl, hP2, fun q hq => (hfr2 q hq).trans (hfr1 q hq)⟩) (Nat.le_of_ble_eq_true rfl) (Nat.le_of_ble_eq_true rfl) d_K_reachesNewPlace_69
  · have e1 : oI (ix (G k (sp (pr k)))) = nI t := by rw [hx]; rfl
    rw [e1] at hl
    obtain ⟨hts, hspt⟩ := (hix _ hqD.2 t).1 hx
    obtain ⟨pt, qt⟩ := hw t (by omega)
    have hwt := hwb t hts
    have q1_t : f1 (ad 7 i t) = hl_nat g n (wb t) := (hP1.2.2.2.2.2.2.2 t (by omega)).2
    refine lv_iload X.1 X.2.1 d_K_reachesNewPlace_54 (lv_at hl 0 rfl) ?_
    refine lv_if_ge (tgt := 70) X.1 X.2.1 d_K_reachesNewPlace_56 (by decide) (fun hc => ?_) (fun hc => ?_)
    · have loop : ∀ (t2 j : Nat) (y : Nat → Nat) (H : Heap) (locs : List Loc) (ls : Array Slot), n + 1 ≤ j + t2 → j ≤ n → (∀ p, p < j → y (wb (pr k) p) = wb t (G k p)) →
          hl_H g (hm_A sz L) s.heap L (va_up f1 rw0 (hl_nat g n y)) H locs → lv_has ls 9 ((8, .int (nI j)) :: (7, .ref (ad 7 i t)) :: [(6, .int (nI t)), (5, .int (nI ((G k) (sp (pr k))))), (4, .ref (ad 7 i (pr k))), (3, .ref (ad 2 i k)), (0, .ref (ad 0 i 0)), (1, .int (nI k)), (2, .ref rw0)]) →
          W p l e { frames := 1, cells := 0, slots := 0, locals := 60 } s m #[.ref (ad 0 i 0), .int (nI k), .ref rw0] below meth c H locs 0 0 (MQ below (va_Qi (fun v u => (ix (G k (sp (pr k))) = none ∧ v = nI 1 ∧ ∃ f1, u = (L, f1) ∧ lk_P g L f1 ad n i gn G (va_up pr k (pr k + 1)) (sn + 1) (va_up sp sn (G k (sp (pr k)))) (va_up ix (G k (sp (pr k))) (some sn)) (va_up wb sn (wb (pr k) ∘ g1)) ∧ ∀ q, ¬ lk_tag i (T q) → f1 q = f q) ∨ (∃ t, ix (G k (sp (pr k))) = some t ∧ v = nI 0 ∧ ∃ f1, u = (L, va_up f1 rw0 (hl_nat g n (wb t ∘ G k ∘ b1))) ∧ lk_P g L f1 ad n i gn G (va_up pr k (pr k + 1)) sn sp ix wb ∧ ∀ q, ¬ lk_tag i (T q) → f1 q = f q)) (hm_B g sz L) (hm_A sz L)) #[.ref (ad 0 i 0), .int (nI k), .ref rw0] s 0 0 (hm_A sz L)) (F0 m 82 ls []) := by
        intro t2
        induction t2 with
        | zero => intros; omega
        | succ t2 ih =>
          intro j y H locs ls hkj hjn hy hh hl
          have nt : ad 7 i t ≠ rw0 := hl_ne (T := T) (by rw [hT 7 t (by decide) (show t < n - i by omega), hTr]; omega)
          have nb : ad 7 i (pr k) ≠ rw0 := hl_ne (T := T) (by rw [hT 7 (pr k) (by decide) (show (pr k) < n - i by omega), hTr]; omega)
          have ng : ad 2 i k ≠ rw0 := hl_ne (T := T) (by rw [hT 2 k (by decide) (show k < lk_most n i by omega), hTr]; omega)
          refine lv_iload X.1 X.2.1 d_K_reachesNewPlace_82 (lv_at hl 0 rfl) ?_
          refine lv_aload_n X.1 X.2.1 d_K_reachesNewPlace_84 rfl (lv_at hl 8 rfl) ?_
          refine hl_alenI X hK hh hr0 (va_up_self ..) d_K_reachesNewPlace_85 ?_
          refine hn_ige (tgt := 109) X (by omega) (by omega) d_K_reachesNewPlace_86 (by decide) (fun hc => ?_) (fun hc => ?_)
          · have hh := hl_norm (w := fun p => nI ((wb t ∘ G k ∘ b1) p)) hh (fun p hp => by
              have h1 : b1 p < n := (lk_sym_iff hwk).2 (by rw [hbi.1]; exact hp)
              have h2 := hy (b1 p) (by omega)
              rw [hbi.1] at h2
              rw [h2]; rfl)
            refine lv_iconst (v := nI 0) X.1 X.2.1 d_K_reachesNewPlace_109 (by decide) ?_
            exact hm_zret X hr hlk hh (Or.inl rfl) (Or.inr ⟨t, hx, rfl, f1, rfl, hP1, hfr1⟩) (Nat.le_of_ble_eq_true rfl) (Nat.le_of_ble_eq_true rfl) d_K_reachesNewPlace_110
          · have h1 := lk_sym_lt hGk hc
            have h2 := lk_sym_lt hwk hc
            have h3 := lk_sym_lt hwt h1
            refine lv_aload_n X.1 X.2.1 d_K_reachesNewPlace_89 rfl (lv_at hl 8 rfl) ?_
            refine lv_aload X.1 X.2.1 d_K_reachesNewPlace_90 (lv_at hl 4 rfl) ?_
            refine lv_iload X.1 X.2.1 d_K_reachesNewPlace_92 (lv_at hl 0 rfl) ?_
            refine hl_iald X hK hh pb ((va_up_ne _ _ nb).trans q1_ad7iprk) (by omega) (by omega) d_K_reachesNewPlace_94 ?_
            refine lv_aload X.1 X.2.1 d_K_reachesNewPlace_95 (lv_at hl 1 rfl) ?_
            refine lv_aload_n X.1 X.2.1 d_K_reachesNewPlace_97 rfl (lv_at hl 5 rfl) ?_
            refine lv_iload X.1 X.2.1 d_K_reachesNewPlace_98 (lv_at hl 0 rfl) ?_
            refine hl_iald X hK hh pg ((va_up_ne _ _ ng).trans q1_ad2ik) (by omega) (by omega) d_K_reachesNewPlace_100 ?_
            refine hl_iald X hK hh pt ((va_up_ne _ _ nt).trans q1_t) (by omega) (by omega) d_K_reachesNewPlace_101 ?_
            refine hl_iastN X hK hh hr0 (va_up_self ..) (by omega) (by omega) d_K_reachesNewPlace_102 (fun H locs hh => ?_)
            rw [hr_uu] at hh
            refine lv_iinc (v := nI (j + 1)) (lv' := [(8, .int (nI (j + 1))), (7, .ref (ad 7 i t)), (6, .int (nI t)), (5, .int (nI ((G k) (sp (pr k))))), (4, .ref (ad 7 i (pr k))), (3, .ref (ad 2 i k)), (0, .ref (ad 0 i 0)), (1, .int (nI k)), (2, .ref rw0)]) X.1 X.2.1 d_K_reachesNewPlace_103 hl (k := 0) rfl (hn_inc _) (by decide) rfl (fun ls hl => ?_)
            refine lv_goto (tgt := 82) X.1 X.2.1 d_K_reachesNewPlace_106 (by decide) ?_
            refine ih (j + 1) (va_up y (wb (pr k) j) (wb t (G k j))) H locs ls (by omega) (by omega) (fun p hp => ?_) hh hl
            by_cases e2 : p = j
            · rw [e2, va_up_self]
            · rw [va_up_ne _ _ (fun e3 => e2 (gp_inv_inj hbi e3))]; exact hy p (by omega)
      refine lv_aload_n X.1 X.2.1 d_K_reachesNewPlace_70 rfl (lv_at hl 4 rfl) ?_
      refine hl_get X hK hh (ref := "CycleGroups$Link") i_K (ci := 3) rfl 6 (by decide) w_126 rfl p0 q1_ad0i0 rfl d_K_reachesNewPlace_71 ?_
      refine lv_iload X.1 X.2.1 d_K_reachesNewPlace_74 (lv_at hl 0 rfl) ?_
      refine hl_aaldG X hK hh p6 q1_ad6i0 (by omega) (by omega) (if_pos (by omega)) d_K_reachesNewPlace_76 ?_
      refine lv_astore (lv' := [(7, .ref (ad 7 i t)), (6, .int (nI t)), (5, .int (nI ((G k) (sp (pr k))))), (4, .ref (ad 7 i (pr k))), (3, .ref (ad 2 i k)), (0, .ref (ad 0 i 0)), (1, .int (nI k)), (2, .ref rw0)]) X.1 X.2.1 d_K_reachesNewPlace_77 hl (by decide) rfl (fun ls hl => ?_)
      refine lv_iconst (v := nI 0) X.1 X.2.1 d_K_reachesNewPlace_79 (by decide) ?_
      refine lv_istore (lv' := [(8, .int (nI 0)), (7, .ref (ad 7 i t)), (6, .int (nI t)), (5, .int (nI ((G k) (sp (pr k))))), (4, .ref (ad 7 i (pr k))), (3, .ref (ad 2 i k)), (0, .ref (ad 0 i 0)), (1, .int (nI k)), (2, .ref rw0)]) X.1 X.2.1 d_K_reachesNewPlace_80 hl (by decide) rfl (fun ls hl => ?_)
      exact loop (n + 1) 0 y0 H locs ls (by omega) (by omega) (fun p hp => absurd hp (Nat.not_lt_zero _)) (hl_same q1_rw0 hh) hl
    · exact absurd (nI_pos' (by omega)) hc

/-- void clear() -/
theorem c_K_clear (l : Launch) (g : hl_G) (sz : Nat) (L : List Nat) (f : Nat → va_E) (T : Nat → Nat) (ad : Nat → Nat → Nat → Nat) (n i gn : Nat) (G : Nat → Nat → Nat) (pr : Nat → Nat) (sn : Nat) (sp : Nat → Nat) (ix : Nat → Option Nat) (wb : Nat → Nat → Nat)
    (hP : lk_P g L f ad n i gn G pr sn sp ix wb) (hW : lk_W n i gn G pr sn sp ix wb) (hT : lk_T T ad n i) :
    Met l y_K_clear (hq y_K_clear b_K_clear 2 none) { frames := 0, cells := 0, slots := 0, locals := 0 } (hm_P g [.ref (ad 0 i 0)] sz L f) (va_Qv (fun u => ∃ f1, u = (L, f1) ∧ lk_P g L f1 ad n i 0 G pr 1 sp (fun p => if p = i then some 0 else none) wb ∧ ∀ q, ¬ lk_tag i (T q) → f1 q = f q) (hm_B g sz L) (hm_A sz L)) 0 0 (hm_A sz L) := by
  have hP0 := hP
  have hinj := lk_inj hW
  obtain ⟨⟨p0, q0⟩, ⟨p1, q1⟩, hg, ⟨p3, q3⟩, ⟨p4, q4⟩, ⟨p5, q5⟩, ⟨p6, q6⟩, hw⟩ := hP
  obtain ⟨h24, hin, hgn, hG, hsn0, hsn, hsp0, hsp, hix, hwb, hpr⟩ := hW
  have n0 : ad 0 i 0 ≠ ad 5 i 0 := hl_ne (T := T) (by rw [hT 0 0 (by decide) rfl, hT 5 0 (by decide) rfl]; omega)
  have n4 : ad 4 i 0 ≠ ad 5 i 0 := hl_ne (T := T) (by rw [hT 4 0 (by decide) rfl, hT 5 0 (by decide) rfl]; omega)
  refine hm_ofW (by decide) (Nat.le_of_ble_eq_true rfl) ?_
  intro p e s m below meth c X hr hlk hnm hK hsz hh ls hl
  have hl : lv_has ls 2 [(0, .ref (ad 0 i 0))] := hl
  have loop : ∀ (t j : Nat) (y : Nat → Int32) (H : Heap) (locs : List Loc) (ls : Array Slot), sn + 1 ≤ j + t → 1 ≤ j → j ≤ sn → (∀ p, p < n → (∃ a, 1 ≤ a ∧ a < j ∧ sp a = p) → y p = -1) → (∀ p, p < n → (¬ ∃ a, 1 ≤ a ∧ a < j ∧ sp a = p) → y p = oI (ix p)) →
      hl_H g (hm_A sz L) s.heap L (va_up f (ad 5 i 0) (hl_row g n y)) H locs → lv_has ls 2 [(1, .int (nI j)), (0, .ref (ad 0 i 0))] →
      W p l e { frames := 0, cells := 0, slots := 0, locals := 0 } s m #[.ref (ad 0 i 0)] below meth c H locs 0 0 (MQ below (va_Qv (fun u => ∃ f1, u = (L, f1) ∧ lk_P g L f1 ad n i 0 G pr 1 sp (fun p => if p = i then some 0 else none) wb ∧ ∀ q, ¬ lk_tag i (T q) → f1 q = f q) (hm_B g sz L) (hm_A sz L)) #[.ref (ad 0 i 0)] s 0 0 (hm_A sz L)) (F0 m 2 ls []) := by
    intro t
    induction t with
    | zero => intros; omega
    | succ t ih =>
      intro j y H locs ls hkj hj1 hjn hy hy2 hh hl
      refine lv_iload_n X.1 X.2.1 d_K_clear_2 rfl (lv_at hl 0 rfl) ?_
      refine lv_aload_n X.1 X.2.1 d_K_clear_3 rfl (lv_at hl 1 rfl) ?_
      refine hl_get X hK hh (ref := "CycleGroups$Link") i_K (ci := 3) rfl 4 (by decide) w_124 rfl p0 ((va_up_ne _ _ n0).trans q0) rfl d_K_clear_4 ?_
      refine hn_ige (tgt := 28) X (by omega) (by omega) d_K_clear_7 (by decide) (fun hc => ?_) (fun hc => ?_)
      · have hh := hl_norm (w := fun p => oI (if p = i then some 0 else none)) hh (fun p hp => by
          by_cases e : p = i
          · rw [if_pos e]
            rw [hy2 p hp (fun ⟨a, h1, h2, h3⟩ => by
              have := hinj a 0 (by omega) hsn0 (by rw [h3, hsp0, e])
              omega), e, (hix i hin 0).2 ⟨hsn0, hsp0⟩]
          · rw [if_neg e]
            by_cases h : ∃ a, 1 ≤ a ∧ a < j ∧ sp a = p
            · rw [hy p hp h]; rfl
            · rw [hy2 p hp h]
              rcases (show ix p = none ∨ ∃ t, ix p = some t by cases ix p <;> simp) with hx | ⟨t, hx⟩
              · rw [hx]
              · obtain ⟨h1, h2⟩ := (hix p hp t).1 hx
                have ht0 : t ≠ 0 := fun e2 => e (by rw [← h2, e2, hsp0])
                exact absurd ⟨t, by omega, by omega, h2⟩ h)
        obtain ⟨f1, hf1⟩ : ∃ x : Nat → va_E, x = va_up f (ad 5 i 0) (hl_row g n (fun p => oI (if p = i then some 0 else none))) := ⟨_, rfl⟩
        have hh : hl_H g (hm_A sz L) s.heap L f1 H locs := by rw [hf1]; exact hh
        have q1_ad0i0 := (congrFun hf1 (ad 0 i 0)).trans ((va_up_ne _ _ (hl_ne (T := T) (by rw [(hT 0 0 (by decide) rfl), (hT 5 0 (by decide) rfl)]; omega))).trans q0)
        have q1_ad5i0 := (congrFun hf1 (ad 5 i 0)).trans (va_up_self ..)
        refine lv_aload_n X.1 X.2.1 d_K_clear_28 rfl (lv_at hl 1 rfl) ?_
        refine lv_iconst (v := nI 1) X.1 X.2.1 d_K_clear_29 (by decide) ?_
        refine hl_put X hK hh (ref := "CycleGroups$Link") i_K t_K t_K_ok n_K (ci := 3) rfl 4 (by decide) w_124 rfl rfl p0 q1_ad0i0 (by first | rfl | decide) (by first | rfl | decide) (Nat.le_of_ble_eq_true rfl) d_K_clear_30 (fun H locs hh => ?_)
        obtain ⟨f2, hf2⟩ : ∃ x : Nat → va_E, x = va_up f1 (ad 0 i 0) (.inr (3, [.ref (ad 1 i 0), .int (nI gn), .ref (ad 3 i 0), .ref (ad 4 i 0), .int (nI 1), .ref (ad 5 i 0), .ref (ad 6 i 0)])) := ⟨_, rfl⟩
        have hh : hl_H g (hm_A sz L) s.heap L f2 H locs := by rw [hf2]; exact hh
        have q2_ad5i0 := (congrFun hf2 (ad 5 i 0)).trans ((va_up_ne _ _ (hl_ne (T := T) (by rw [(hT 5 0 (by decide) rfl), (hT 0 0 (by decide) rfl)]; omega))).trans q1_ad5i0)
        have q2_ad0i0 := (congrFun hf2 (ad 0 i 0)).trans (va_up_self ..)
        refine lv_aload_n X.1 X.2.1 d_K_clear_33 rfl (lv_at hl 1 rfl) ?_
        refine lv_iconst (v := nI 0) X.1 X.2.1 d_K_clear_34 (by decide) ?_
        refine hl_put X hK hh (ref := "CycleGroups$Link") i_K t_K t_K_ok n_K (ci := 3) rfl 1 (by decide) w_121 rfl rfl p0 q2_ad0i0 (by first | rfl | decide) (by first | rfl | decide) (Nat.le_of_ble_eq_true rfl) d_K_clear_35 (fun H locs hh => ?_)
        obtain ⟨f3, hf3⟩ : ∃ x : Nat → va_E, x = va_up f2 (ad 0 i 0) (.inr (3, [.ref (ad 1 i 0), .int (nI 0), .ref (ad 3 i 0), .ref (ad 4 i 0), .int (nI 1), .ref (ad 5 i 0), .ref (ad 6 i 0)])) := ⟨_, rfl⟩
        have hh : hl_H g (hm_A sz L) s.heap L f3 H locs := by rw [hf3]; exact hh
        have q3_ad5i0 := (congrFun hf3 (ad 5 i 0)).trans ((va_up_ne _ _ (hl_ne (T := T) (by rw [(hT 5 0 (by decide) rfl), (hT 0 0 (by decide) rfl)]; omega))).trans q2_ad5i0)
        have q3_ad0i0 := (congrFun hf3 (ad 0 i 0)).trans (va_up_self ..)
        refine hm_vret X hr hlk hh ⟨_, rfl, ?_, ?_⟩ (Nat.le_of_ble_eq_true rfl) (Nat.le_of_ble_eq_true rfl) d_K_clear_38
        · rw [hf3, hf2, hf1]
          exact lk_up0 h24 (lk_up0 h24 (lk_up5 h24 hP0 hT (fun p => if p = i then some 0 else none)) hT gn 1) hT 0 1
        · intro q hq
          rw [hf3, lk_fr (k := 0) (j := 0) hT (by decide) rfl (by decide) _ _ q hq, hf2, lk_fr (k := 0) (j := 0) hT (by decide) rfl (by decide) _ _ q hq, hf1, lk_fr (k := 5) (j := 0) hT (by decide) rfl (by decide) _ _ q hq]
      · have hcj : j < sn := hc
        have hsj := hsp j hcj
        refine lv_aload_n X.1 X.2.1 d_K_clear_10 rfl (lv_at hl 1 rfl) ?_
        refine hl_get X hK hh (ref := "CycleGroups$Link") i_K (ci := 3) rfl 5 (by decide) w_125 rfl p0 ((va_up_ne _ _ n0).trans q0) rfl d_K_clear_11 ?_
        refine lv_aload_n X.1 X.2.1 d_K_clear_14 rfl (lv_at hl 1 rfl) ?_
        refine hl_get X hK hh (ref := "CycleGroups$Link") i_K (ci := 3) rfl 3 (by decide) w_123 rfl p0 ((va_up_ne _ _ n0).trans q0) rfl d_K_clear_15 ?_
        refine lv_iload_n X.1 X.2.1 d_K_clear_18 rfl (lv_at hl 0 rfl) ?_
        refine hl_iald X hK hh p4 ((va_up_ne _ _ n4).trans q4) (by omega) (by omega) d_K_clear_19 ?_
        refine lv_iconst (v := -1) X.1 X.2.1 d_K_clear_20 (by decide) ?_
        refine hl_iast X hK hh p5 (va_up_self ..) (by omega) (by omega) d_K_clear_21 (fun H locs hh => ?_)
        rw [hr_uu] at hh
        refine lv_iinc (v := nI (j + 1)) (lv' := [(1, .int (nI (j + 1))), (0, .ref (ad 0 i 0))]) X.1 X.2.1 d_K_clear_22 hl (k := 0) rfl (hn_inc _) (by decide) rfl (fun ls hl => ?_)
        refine lv_goto (tgt := 2) X.1 X.2.1 d_K_clear_25 (by decide) ?_
        refine ih (j + 1) (va_up y (sp j) (-1)) H locs ls (by omega) (by omega) (by omega) (fun p hp ⟨a, h1, h2, h3⟩ => ?_) (fun p hp hna => ?_) hh hl
        · by_cases e : p = sp j
          · rw [e, va_up_self]
          · rw [va_up_ne _ _ e]
            exact hy p hp ⟨a, h1, by
              rcases Nat.lt_or_eq_of_le (Nat.le_of_lt_succ h2) with h | h
              · exact h
              · exact absurd (by rw [← h3, h]) e, h3⟩
        · have e : p ≠ sp j := fun e => hna ⟨j, hj1, Nat.lt_succ_self j, e.symm⟩
          rw [va_up_ne _ _ e]
          exact hy2 p hp (fun ⟨a, h1, h2, h3⟩ => hna ⟨a, h1, by omega, h3⟩)
  refine lv_iconst (v := nI 1) X.1 X.2.1 d_K_clear_0 (by decide) ?_
  refine lv_istore_n (lv' := [(1, .int (nI 1)), (0, .ref (ad 0 i 0))]) X.1 X.2.1 d_K_clear_1 rfl hl (by decide) rfl (fun ls hl => ?_)
  exact loop (sn + 1) 1 (fun p => oI (ix p)) s.heap [] ls (by omega) (by omega) (by omega) (fun p hp ⟨a, h1, h2, h3⟩ => by omega) (fun p hp _ => rfl) (hl_same q5 hh) hl
end
end
section
/-! The class Chain: its cells; spreadSize, siftWork, failingPlace. -/
section
/-- the rows of link i as a list; none from n on -/
def cn_gs (n : Nat) (gn : Nat → Nat) (G : Nat → Nat → gp_f) (i : Nat) : List gp_f := if i < n then (List.range (gn i)).map (G i) else []

theorem cn_gs_len {n : Nat} {gn : Nat → Nat} {G : Nat → Nat → gp_f} {i : Nat} (hi : i < n) : (cn_gs n gn G i).length = gn i := by
  unfold cn_gs
  rw [if_pos hi, List.length_map, List.length_range]

theorem cn_gs_at {n : Nat} {gn : Nat → Nat} {G : Nat → Nat → gp_f} {i k : Nat} (hi : i < n) (hk : k < gn i) : (cn_gs n gn G i)[k]? = some (G i k) := by
  unfold cn_gs
  rw [if_pos hi, List.getElem?_map, List.getElem?_range hk]
  rfl

theorem cn_gs_of {n : Nat} {gn : Nat → Nat} {G : Nat → Nat → gp_f} {i k : Nat} {x : gp_f} (hi : i < n) (h : (cn_gs n gn G i)[k]? = some x) : k < gn i ∧ x = G i k := by
  have hk : k < gn i := by
    have := (List.getElem?_eq_some_iff.1 h).1
    rw [cn_gs_len hi] at this
    exact this
  rw [cn_gs_at hi hk] at h
  exact ⟨hk, (Option.some.inj h).symm⟩

/-- the cells of the chain at ch: its links' and its own -/
def cn_P (g : hl_G) (L : List Nat) (f : Nat → va_E) (T : Nat → Nat) (ad : Nat → Nat → Nat → Nat) (n ch lO wk : Nat) (zL : Nat → Option Nat) (gn : Nat → Nat) (G : Nat → Nat → Nat → Nat) (pr : Nat → Nat → Nat) (sn : Nat → Nat) (sp : Nat → Nat → Nat) (ix : Nat → Nat → Option Nat) (wb : Nat → Nat → Nat → Nat) (y : Nat → Nat) : Prop :=
  (ch ∈ L ∧ f ch = .inr (1, [.int (nI n), .ref lO, .ref wk]) ∧ T ch = 7) ∧ (lO ∈ L ∧ f lO = hl_lks g n zL ∧ T lO = 8) ∧ (wk ∈ L ∧ f wk = hl_nat g n y ∧ T wk = 9) ∧
  ∀ i, i < n → zL i = some (ad 0 i 0) ∧ lk_T T ad n i ∧ lk_P g L f ad n i (gn i) (G i) (pr i) (sn i) (sp i) (ix i) (wb i)

/-- all its links are well made -/
def cn_W (n : Nat) (gn : Nat → Nat) (G : Nat → Nat → Nat → Nat) (pr : Nat → Nat → Nat) (sn : Nat → Nat) (sp : Nat → Nat → Nat) (ix : Nat → Nat → Option Nat) (wb : Nat → Nat → Nat → Nat) : Prop :=
  ∀ i, i < n → lk_W n i (gn i) (G i) (pr i) (sn i) (sp i) (ix i) (wb i)

section
variable {g : hl_G} {L : List Nat} {f : Nat → va_E} {T : Nat → Nat} {ad : Nat → Nat → Nat → Nat} {n ch lO wk : Nat} {zL : Nat → Option Nat} {gn : Nat → Nat} {G : Nat → Nat → Nat → Nat} {pr : Nat → Nat → Nat} {sn : Nat → Nat} {sp : Nat → Nat → Nat} {ix : Nat → Nat → Option Nat} {wb : Nat → Nat → Nat → Nat} {y : Nat → Nat}
/-- the work row changed -/
theorem cn_work (hn : n ≤ 24) (h : cn_P g L f T ad n ch lO wk zL gn G pr sn sp ix wb y) (y1 : Nat → Nat) : cn_P g L (va_up f wk (hl_nat g n y1)) T ad n ch lO wk zL gn G pr sn sp ix wb y1 := by
  obtain ⟨⟨a1, a2, a3⟩, ⟨b1, b2, b3⟩, ⟨c1, c2, c3⟩, hl⟩ := h
  refine ⟨⟨a1, (va_up_ne _ _ (hl_ne (T := T) (by omega))).trans a2, a3⟩, ⟨b1, (va_up_ne _ _ (hl_ne (T := T) (by omega))).trans b2, b3⟩, ⟨c1, va_up_self .., c3⟩, fun i hi => ?_⟩
  obtain ⟨h1, h2, h3⟩ := hl i hi
  exact ⟨h1, h2, lk_congr hn h3 h2 (fun q hq => va_up_ne _ _ (hl_ne (T := T) (by have := lk_tag_lt hq; omega)))⟩

/-- a link changed, and nothing else -/
theorem cn_link (hn : n ≤ 24) (h : cn_P g L f T ad n ch lO wk zL gn G pr sn sp ix wb y) {i : Nat} (hi : i < n) {f1 : Nat → va_E} {gn1 : Nat} {G1 : Nat → Nat → Nat} {pr1 : Nat → Nat} {sn1 : Nat} {sp1 : Nat → Nat} {ix1 : Nat → Option Nat} {wb1 : Nat → Nat → Nat}
    (h1 : lk_P g L f1 ad n i gn1 G1 pr1 sn1 sp1 ix1 wb1) (hf : ∀ q, ¬ lk_tag i (T q) → f1 q = f q) :
    cn_P g L f1 T ad n ch lO wk zL (va_up gn i gn1) (va_up G i G1) (va_up pr i pr1) (va_up sn i sn1) (va_up sp i sp1) (va_up ix i ix1) (va_up wb i wb1) y := by
  obtain ⟨⟨a1, a2, a3⟩, ⟨b1, b2, b3⟩, ⟨c1, c2, c3⟩, hl⟩ := h
  have nt : ∀ q, T q < 100 → f1 q = f q := fun q hq => hf q (fun ht => by have := lk_tag_lt ht; omega)
  refine ⟨⟨a1, (nt ch (by omega)).trans a2, a3⟩, ⟨b1, (nt lO (by omega)).trans b2, b3⟩, ⟨c1, (nt wk (by omega)).trans c2, c3⟩, fun j hj => ?_⟩
  obtain ⟨e1, e2, e3⟩ := hl j hj
  by_cases e : j = i
  · subst e
    simp only [va_up_self]
    exact ⟨e1, e2, h1⟩
  · simp only [va_up_ne _ _ e]
    refine ⟨e1, e2, lk_congr hn e3 e2 (fun q hq => hf q (fun hq2 => ?_))⟩
    obtain ⟨k, a, ha, hb, e4⟩ := hq
    obtain ⟨k', a', ha', hb', e5⟩ := hq2
    omega
end

/-- int spreadSize(int i) -/
theorem c_H_spreadSize (l : Launch) (g : hl_G) (sz : Nat) (L : List Nat) (f : Nat → va_E) (T : Nat → Nat) (ad : Nat → Nat → Nat → Nat) (n ch lO wk : Nat) (zL : Nat → Option Nat) (gn : Nat → Nat) (G : Nat → Nat → Nat → Nat) (pr : Nat → Nat → Nat) (sn : Nat → Nat) (sp : Nat → Nat → Nat) (ix : Nat → Nat → Option Nat) (wb : Nat → Nat → Nat → Nat) (y : Nat → Nat)
    (hn : n ≤ 24) (hC : cn_P g L f T ad n ch lO wk zL gn G pr sn sp ix wb y) (i : Nat) (hi : i < n) :
    Met l y_H_spreadSize (hq y_H_spreadSize b_H_spreadSize 2 (some .int)) { frames := 1, cells := 0, slots := 0, locals := 30 } (hm_P g [.ref ch, .int (nI i)] sz L f) (va_Qi (fun r u => r = nI (sn i) ∧ u = (L, f)) (hm_B g sz L) (hm_A sz L)) 0 0 (hm_A sz L) := by
  refine hm_ofW (by decide) (Nat.le_of_ble_eq_true rfl) ?_
  intro p e s m below meth c X hr hlk hnm hK hsz hh ls hl
  have hl : lv_has ls 2 [(0, .ref ch), (1, .int (nI i))] := hl
  obtain ⟨⟨a1, a2, a3⟩, ⟨b1, b2, b3⟩, ⟨c1, c2, c3⟩, hlks⟩ := hC
  obtain ⟨z1, t1, l1⟩ := hlks i hi
  refine lv_aload_n X.1 X.2.1 d_H_spreadSize_0 rfl (lv_at hl 0 rfl) ?_
  refine hl_get X hK hh (ref := "CycleGroups$Chain") i_H (ci := 1) rfl 1 (by decide) w_143 rfl a1 a2 rfl d_H_spreadSize_1 ?_
  refine lv_iload_n X.1 X.2.1 d_H_spreadSize_4 rfl (lv_at hl 1 rfl) ?_
  refine hl_aaldL X hK hh b1 b2 (by omega) (by omega) z1 d_H_spreadSize_5 ?_
  refine hl_calli hh (hl_runV (k := 0) X hK hh (c_K_spreadSize l g _ L f ad n i (gn i) (G i) (pr i) (sn i) (sp i) (ix i) (wb i) l1) wc_K_spreadSize w_205 w_7 wi_K_spreadSize ws_K_spreadSize (by decide +kernel) rfl rfl ⟨Nat.le_of_ble_eq_true rfl, Nat.le_of_ble_eq_true rfl⟩ l1.1.1 l1.1.2 rfl rfl rfl rfl (Nat.le_of_ble_eq_true rfl) hl.1 d_H_spreadSize_6 ⟨Nat.le_of_ble_eq_true rfl, Nat.le_of_ble_eq_true rfl⟩) (fun r u H locs hp hh => ?_)
  obtain ⟨rfl, rfl⟩ := hp
  exact hm_iret X hr hlk hh ⟨rfl, rfl⟩ (Nat.le_of_ble_eq_true rfl) (Nat.le_of_ble_eq_true rfl) d_H_spreadSize_9

/-- private int siftWork(int from) -/
theorem c_H_siftWork (l : Launch) (g : hl_G) (sz : Nat) (L : List Nat) (f : Nat → va_E) (T : Nat → Nat) (ad : Nat → Nat → Nat → Nat) (n ch lO wk : Nat) (zL : Nat → Option Nat) (gn : Nat → Nat) (G : Nat → Nat → Nat → Nat) (pr : Nat → Nat → Nat) (sn : Nat → Nat) (sp : Nat → Nat → Nat) (ix : Nat → Nat → Option Nat) (wb : Nat → Nat → Nat → Nat) (σ : Nat → Nat)
    (hn : n ≤ 24) (hC : cn_P g L f T ad n ch lO wk zL gn G pr sn sp ix wb σ) (hW : cn_W n gn G pr sn sp ix wb) (pr0 : Nat → Nat → Nat) (hok : ch_ok n (cn_gs n gn G) pr0 sn sp wb) (b : Nat) (hb : b ≤ n) (hσ : gp_sym (ch_D n b) σ) :
    Met l y_H_siftWork (hq y_H_siftWork b_H_siftWork 3 (some .int)) { frames := 1, cells := 0, slots := 0, locals := 30 } (hm_P g [.ref ch, .int (nI b)] sz L f) (va_Qi (fun r u => ∃ j x, b ≤ j ∧ j ≤ n ∧ r = nI j ∧ ch_G (cn_gs n gn G b) x ∧ u = (L, va_up f wk (hl_nat g n (x ∘ σ))) ∧ (∀ p, b ≤ p → p < j → x (σ p) = p) ∧ (j < n → ¬ ∃ s, s < sn j ∧ sp j s = x (σ j))) (hm_B g sz L) (hm_A sz L)) 0 0 (hm_A sz L) := by
  refine hm_ofW (by decide) (Nat.le_of_ble_eq_true rfl) ?_
  intro p e s m below meth c X hr hlk hnm hK hsz hh ls hl
  have hl : lv_has ls 3 [(0, .ref ch), (1, .int (nI b))] := hl
  obtain ⟨⟨a1, a2, a3⟩, ⟨b1, b2, b3⟩, ⟨c1, c2, c3⟩, hlks⟩ := hC
  have nc : ch ≠ wk := hl_ne (T := T) (by omega)
  have nl : lO ≠ wk := hl_ne (T := T) (by omega)
  have loop : ∀ (t i : Nat) (x : gp_f) (H : Heap) (locs : List Loc) (ls : Array Slot), n + 1 ≤ i + t → b ≤ i → i ≤ n → ch_G (cn_gs n gn G b) x → (∀ p, b ≤ p → p < i → x (σ p) = p) →
      hl_H g (hm_A sz L) s.heap L (va_up f wk (hl_nat g n (x ∘ σ))) H locs → lv_has ls 3 [(2, .int (nI i)), (0, .ref ch), (1, .int (nI b))] →
      W p l e { frames := 1, cells := 0, slots := 0, locals := 30 } s m #[.ref ch, .int (nI b)] below meth c H locs 0 0 (MQ below (va_Qi (fun r u => ∃ j x, b ≤ j ∧ j ≤ n ∧ r = nI j ∧ ch_G (cn_gs n gn G b) x ∧ u = (L, va_up f wk (hl_nat g n (x ∘ σ))) ∧ (∀ p, b ≤ p → p < j → x (σ p) = p) ∧ (j < n → ¬ ∃ s, s < sn j ∧ sp j s = x (σ j))) (hm_B g sz L) (hm_A sz L)) #[.ref ch, .int (nI b)] s 0 0 (hm_A sz L)) (F0 m 2 ls []) := by
    intro t
    induction t with
    | zero => intros; omega
    | succ t ih =>
      intro i x H locs ls hki hbi hin hx hfix hh hl
      refine lv_iload_n X.1 X.2.1 d_H_siftWork_2 rfl (lv_at hl 0 rfl) ?_
      refine lv_aload_n X.1 X.2.1 d_H_siftWork_3 rfl (lv_at hl 1 rfl) ?_
      refine hl_get X hK hh (ref := "CycleGroups$Chain") i_H (ci := 1) rfl 0 (by decide) w_142 rfl a1 ((va_up_ne _ _ nc).trans a2) rfl d_H_siftWork_4 ?_
      refine hn_ige (tgt := 44) X (by omega) (by omega) d_H_siftWork_7 (by decide) (fun hc => ?_) (fun hc => ?_)
      · have e : i = n := by omega
        subst e
        refine lv_aload_n X.1 X.2.1 d_H_siftWork_44 rfl (lv_at hl 1 rfl) ?_
        refine hl_get X hK hh (ref := "CycleGroups$Chain") i_H (ci := 1) rfl 0 (by decide) w_142 rfl a1 ((va_up_ne _ _ nc).trans a2) rfl d_H_siftWork_45 ?_
        exact hm_iret X hr hlk hh ⟨_, x, hb, Nat.le_refl _, rfl, hx, rfl, hfix, fun h => absurd h (Nat.lt_irrefl _)⟩ (Nat.le_of_ble_eq_true rfl) (Nat.le_of_ble_eq_true rfl) d_H_siftWork_48
      · have hin2 : i < n := hc
        have hxs := ch_in_sym hok hb x hx
        have hrb : gp_sym (ch_D n b) (x ∘ σ) := (gp_sym_sg _).2.1 _ _ hxs hσ
        have hrS : gp_sym (ch_D n i) (x ∘ σ) := by
          refine ⟨hrb.1, fun p hp => ?_⟩
          by_cases hpb : b ≤ p ∧ p < i
          · exact hfix p hpb.1 hpb.2
          · refine hrb.2 p (fun hm => hp ?_)
            rw [ch_D_mem] at hm ⊢
            omega
        have hri : (x ∘ σ) i < n := lk_sym_lt hrS hin2
        refine lv_aload_n X.1 X.2.1 d_H_siftWork_10 rfl (lv_at hl 1 rfl) ?_
        refine hl_get X hK hh (ref := "CycleGroups$Chain") i_H (ci := 1) rfl 2 (by decide) w_144 rfl a1 ((va_up_ne _ _ nc).trans a2) rfl d_H_siftWork_11 ?_
        refine lv_iload_n X.1 X.2.1 d_H_siftWork_14 rfl (lv_at hl 0 rfl) ?_
        refine hl_iald X hK hh c1 (va_up_self ..) (by omega) (by omega) d_H_siftWork_15 ?_
        refine lv_iload_n X.1 X.2.1 d_H_siftWork_16 rfl (lv_at hl 0 rfl) ?_
        refine hn_ieq (tgt := 38) X (by omega) (by omega) d_H_siftWork_17 (by decide) (fun hc => ?_) (fun hc => ?_)
        · have hc2 : x (σ i) = i := hc
          refine lv_iinc (v := nI (i + 1)) (lv' := [(2, .int (nI (i + 1))), (0, .ref ch), (1, .int (nI b))]) X.1 X.2.1 d_H_siftWork_38 hl (k := 0) rfl (hn_inc _) (by decide) rfl (fun ls hl => ?_)
          refine lv_goto (tgt := 2) X.1 X.2.1 d_H_siftWork_41 (by decide) ?_
          refine ih (i + 1) x H locs ls (by omega) (by omega) (by omega) hx (fun p h1 h2 => ?_) hh hl
          by_cases e : p = i
          · rw [e]; exact hc2
          · exact hfix p h1 (by omega)
        · obtain ⟨z1, t1, l1⟩ := hlks i hin2
          have hWi := hW i hin2
          have l2 : lk_P g L (va_up f wk (hl_nat g n (x ∘ σ))) ad n i (gn i) (G i) (pr i) (sn i) (sp i) (ix i) (wb i) := lk_congr hn l1 t1 (fun q hq => va_up_ne _ _ (hl_ne (T := T) (by have := lk_tag_lt hq; omega)))
          refine lv_aload_n X.1 X.2.1 d_H_siftWork_20 rfl (lv_at hl 1 rfl) ?_
          refine hl_get X hK hh (ref := "CycleGroups$Chain") i_H (ci := 1) rfl 1 (by decide) w_143 rfl a1 ((va_up_ne _ _ nc).trans a2) rfl d_H_siftWork_21 ?_
          refine lv_iload_n X.1 X.2.1 d_H_siftWork_24 rfl (lv_at hl 0 rfl) ?_
          refine hl_aaldL X hK hh b1 ((va_up_ne _ _ nl).trans b2) (by omega) (by omega) z1 d_H_siftWork_25 ?_
          refine lv_aload_n X.1 X.2.1 d_H_siftWork_26 rfl (lv_at hl 1 rfl) ?_
          refine hl_get X hK hh (ref := "CycleGroups$Chain") i_H (ci := 1) rfl 2 (by decide) w_144 rfl a1 ((va_up_ne _ _ nc).trans a2) rfl d_H_siftWork_27 ?_
          refine hl_calli hh (hl_runV (k := 1) X hK hh (c_K_undo l g _ L _ T ad n i (gn i) (G i) (pr i) (sn i) (sp i) (ix i) (wb i) l2 hWi t1 wk (x ∘ σ) c1 (va_up_self ..) (by omega) hrS) wc_K_undo w_171 w_7 wi_K_undo ws_K_undo (by decide +kernel) rfl rfl ⟨Nat.le_of_ble_eq_true rfl, Nat.le_of_ble_eq_true rfl⟩ l2.1.1 l2.1.2 rfl rfl rfl rfl (Nat.le_of_ble_eq_true rfl) hl.1 d_H_siftWork_30 ⟨Nat.le_of_ble_eq_true rfl, Nat.le_of_ble_eq_true rfl⟩) (fun r u H locs hp hh => ?_)
          rcases hp with ⟨hx0, rfl, rfl⟩ | ⟨t0, hx0, rfl, rfl⟩
          · skip
            refine hn_zne (tgt := 38) X (by omega) d_H_siftWork_33 (by decide) (fun hc => ?_) (fun hc => ?_)
            · exact absurd rfl hc
            · skip
              refine lv_iload_n X.1 X.2.1 d_H_siftWork_36 rfl (lv_at hl 0 rfl) ?_
              refine hm_iret X hr hlk hh ⟨i, x, hbi, hin, rfl, hx, rfl, hfix, fun _ ⟨s0, h1, h2⟩ => ?_⟩ (Nat.le_of_ble_eq_true rfl) (Nat.le_of_ble_eq_true rfl) d_H_siftWork_37
              have := (hWi.2.2.2.2.2.2.2.2.1 _ hri s0).2 ⟨h1, h2⟩
              rw [hx0] at this
              cases this
          · obtain ⟨ht1, ht2⟩ := (hWi.2.2.2.2.2.2.2.2.1 _ hri t0).1 hx0
            refine hn_zne (tgt := 38) X (by omega) d_H_siftWork_33 (by decide) (fun hc => ?_) (fun hc => ?_)
            · have hh : hl_H g (hm_A sz L) s.heap L (va_up (va_up f wk (hl_nat g n (x ∘ σ))) wk (hl_nat g n (wb i t0 ∘ (x ∘ σ)))) H locs := hh
              rw [hr_uu] at hh
              refine lv_iinc (v := nI (i + 1)) (lv' := [(2, .int (nI (i + 1))), (0, .ref ch), (1, .int (nI b))]) X.1 X.2.1 d_H_siftWork_38 hl (k := 0) rfl (hn_inc _) (by decide) rfl (fun ls hl => ?_)
              refine lv_goto (tgt := 2) X.1 X.2.1 d_H_siftWork_41 (by decide) ?_
              refine ih (i + 1) (wb i t0 ∘ x) H locs ls (by omega) (by omega) (by omega) (ch_undo hok hbi hin2 ht1 hx) (fun p h1 h2 => ?_) hh hl
              have hlo := (hok.2 i hin2).1
              by_cases e : p = i
              · subst e
                show wb p t0 (x (σ p)) = p
                have h3 : x (σ p) = sp p t0 := ht2.symm
                rw [h3]
                exact (hlo.2.2.2.2.1 t0 ht1).2
              · show wb i t0 (x (σ p)) = p
                rw [hfix p h1 (by omega)]
                exact (hWi.2.2.2.2.2.2.2.2.2.1 t0 ht1).2 p (fun hm => by have := ch_D_mem.1 hm; omega)
            · exact absurd hc (by decide)
  refine lv_iload_n X.1 X.2.1 d_H_siftWork_0 rfl (lv_at hl 1 rfl) ?_
  refine lv_istore_n (lv' := [(2, .int (nI b)), (0, .ref ch), (1, .int (nI b))]) X.1 X.2.1 d_H_siftWork_1 rfl hl (by decide) rfl (fun ls hl => ?_)
  have hh : hl_H g (hm_A sz L) s.heap L (va_up f wk (hl_nat g n (id ∘ σ))) s.heap [] := hl_same c2 hh
  exact loop (n + 1 - b) b id s.heap [] ls (by omega) (by omega) hb gp_gen_id (fun p h1 h2 => by omega) hh hl

/-- int failingPlace(int[] row) -/
theorem c_H_failingPlace (l : Launch) (g : hl_G) (sz : Nat) (L : List Nat) (f : Nat → va_E) (T : Nat → Nat) (ad : Nat → Nat → Nat → Nat) (n ch lO wk : Nat) (zL : Nat → Option Nat) (gn : Nat → Nat) (G : Nat → Nat → Nat → Nat) (pr : Nat → Nat → Nat) (sn : Nat → Nat) (sp : Nat → Nat → Nat) (ix : Nat → Nat → Option Nat) (wb : Nat → Nat → Nat → Nat) (y : Nat → Nat)
    (hn : n ≤ 24) (hC : cn_P g L f T ad n ch lO wk zL gn G pr sn sp ix wb y) (hW : cn_W n gn G pr sn sp ix wb) (hok : ch_ok n (cn_gs n gn G) pr sn sp wb) (rw0 : Nat) (σ : Nat → Nat) (hr0 : rw0 ∈ L) (hfr : f rw0 = hl_nat g n σ) (hrw : rw0 ≠ wk) (hσ : gp_sym (ch_D n 0) σ) :
    Met l y_H_failingPlace (hq y_H_failingPlace b_H_failingPlace 2 (some .int)) { frames := 2, cells := 0, slots := 0, locals := 60 } (hm_P g [.ref ch, .ref rw0] sz L f) (va_Qi (fun r u => ∃ j x, j ≤ n ∧ r = nI j ∧ ch_G (cn_gs n gn G 0) x ∧ u = (L, va_up f wk (hl_nat g n (x ∘ σ))) ∧ (∀ p, p < j → x (σ p) = p) ∧ (j < n → ¬ ∃ s, s < sn j ∧ sp j s = x (σ j))) (hm_B g sz L) (hm_A sz L)) 0 0 (hm_A sz L) := by
  refine hm_ofW (by decide) (Nat.le_of_ble_eq_true rfl) ?_
  intro p e s m below meth c X hr hlk hnm hK hsz hh ls hl
  have hl : lv_has ls 2 [(0, .ref ch), (1, .ref rw0)] := hl
  have hC1 := cn_work hn hC σ
  obtain ⟨⟨a1, a2, a3⟩, ⟨b1, b2, b3⟩, ⟨c1, c2, c3⟩, hlks⟩ := hC
  have nc : ch ≠ wk := hl_ne (T := T) (by omega)
  refine lv_aload_n X.1 X.2.1 d_H_failingPlace_0 rfl (lv_at hl 1 rfl) ?_
  refine lv_iconst (v := nI 0) X.1 X.2.1 d_H_failingPlace_1 (by decide) ?_
  refine lv_aload_n X.1 X.2.1 d_H_failingPlace_2 rfl (lv_at hl 0 rfl) ?_
  refine hl_get X hK hh (ref := "CycleGroups$Chain") i_H (ci := 1) rfl 2 (by decide) w_144 rfl a1 a2 rfl d_H_failingPlace_3 ?_
  refine lv_iconst (v := nI 0) X.1 X.2.1 d_H_failingPlace_6 (by decide) ?_
  refine lv_aload_n X.1 X.2.1 d_H_failingPlace_7 rfl (lv_at hl 0 rfl) ?_
  refine hl_get X hK hh (ref := "CycleGroups$Chain") i_H (ci := 1) rfl 0 (by decide) w_142 rfl a1 a2 rfl d_H_failingPlace_8 ?_
  refine hl_copy X hK hh w_164 hr0 hfr c1 c2 (by omega) (by omega) (by omega) (by omega) hl.1 (Nat.le_of_ble_eq_true rfl) (Nat.le_of_ble_eq_true rfl) d_H_failingPlace_11 (fun H locs hh => ?_)
  have hh := hl_norm (w := fun p => nI (σ p)) hh (fun p hp => by rw [pk_cpy_in (Nat.zero_le p) (by omega)]; simp)
  obtain ⟨f1, hf1⟩ : ∃ x : Nat → va_E, x = va_up f wk (hl_nat g n σ) := ⟨_, rfl⟩
  have hh : hl_H g (hm_A sz L) s.heap L f1 H locs := by rw [hf1]; exact hh
  have q1_ch := (congrFun hf1 ch).trans ((va_up_ne _ _ nc).trans a2)
  have q1_rw0 := (congrFun hf1 rw0).trans ((va_up_ne _ _ hrw).trans hfr)
  have q1_wk := (congrFun hf1 wk).trans (va_up_self ..)
  refine lv_aload_n X.1 X.2.1 d_H_failingPlace_14 rfl (lv_at hl 0 rfl) ?_
  refine lv_iconst (v := nI 0) X.1 X.2.1 d_H_failingPlace_15 (by decide) ?_
  have hC2 : cn_P g L f1 T ad n ch lO wk zL gn G pr sn sp ix wb σ := by rw [hf1]; exact hC1
  refine hl_calli hh (hl_runV (k := 1) X hK hh (c_H_siftWork l g _ L f1 T ad n ch lO wk zL gn G pr sn sp ix wb σ hn hC2 hW pr hok 0 (Nat.zero_le n) hσ) wc_H_siftWork w_167 w_6 wi_H_siftWork ws_H_siftWork (by decide +kernel) rfl rfl ⟨Nat.le_of_ble_eq_true rfl, Nat.le_of_ble_eq_true rfl⟩ a1 q1_ch rfl rfl rfl rfl (Nat.le_of_ble_eq_true rfl) hl.1 d_H_failingPlace_16 ⟨Nat.le_of_ble_eq_true rfl, Nat.le_of_ble_eq_true rfl⟩) (fun r u H locs hp hh => ?_)
  obtain ⟨j, x, _, hj, rfl, hx, rfl, h1, h2⟩ := hp
  refine hm_iret X hr hlk hh ⟨j, x, hj, rfl, hx, ?_, fun p hp => h1 p (Nat.zero_le p) hp, h2⟩ (Nat.le_of_ble_eq_true rfl) (Nat.le_of_ble_eq_true rfl) d_H_failingPlace_19
  rw [hf1, hr_uu]
end
end
section
/-! The chain as it is made: rows for the methods. -/
section
theorem cn_gs_add {n : Nat} {gn : Nat → Nat} {G : Nat → Nat → gp_f} {b : Nat} (hb : b < n) (r : gp_f) :
    cn_gs n (va_up gn b (gn b + 1)) (va_up G b (va_up (G b) (gn b) r)) = va_up (cn_gs n gn G) b (cn_gs n gn G b ++ [r]) := by
  funext i
  by_cases e : i = b
  · subst e
    rw [va_up_self]
    unfold cn_gs
    rw [if_pos hb, if_pos hb, va_up_self, va_up_self, List.range_succ, List.map_append]
    congr 1
    · apply List.map_congr_left
      intro k hk
      rw [va_up_ne _ _ (Nat.ne_of_lt (List.mem_range.1 hk))]
    · simp [va_up_self]
  · rw [va_up_ne _ _ e]
    unfold cn_gs
    rw [va_up_ne _ _ e, va_up_ne _ _ e]

section
variable {n : Nat} {gs : Nat → List gp_f} {pr : Nat → Nat → Nat} {sn : Nat → Nat} {sp : Nat → Nat → Nat}
  {wb : Nat → Nat → gp_f} {a c : Nat}

theorem ch_pair2 (h : ch_inv n gs pr sn sp wb c) (hac : a < c) (ha : a < n) {k s t : Nat} {g u : gp_f} (hk : (gs a)[k]? = some g)
    (hs : s = pr a k) (hsn : s < sn a) (ht : t < sn a) (hq : sp a t = g (sp a s)) (hu : u ∘ wb a s = wb a t ∘ g)
    (hin : ch_G (gs (a + 1)) u) : ch_inv n gs (va_up pr a (va_up (pr a) k (s + 1))) sn sp wb c := by
  obtain ⟨⟨h0, h1⟩, h2, h3⟩ := h
  refine ⟨⟨h0, fun i hi => ?_⟩, fun i hi hin => ?_, h3⟩
  · obtain ⟨c1, c2, c3, c4⟩ := h1 i hi
    by_cases e : i = a
    · subst e
      refine ⟨c1, ?_, c3, ?_⟩
      · rw [va_up_self]
        intro k' g' hk' s' hs'
        by_cases ek : k' = k
        · subst ek
          rw [va_up_self] at hs'
          by_cases es : s' = s
          · subst es
            rw [hk] at hk'
            cases hk'
            exact ⟨t, ht, hq, u, hin, hu⟩
          · exact c2 k' g' hk' s' (by omega)
        · rw [va_up_ne _ _ ek] at hs'
          exact c2 k' g' hk' s' hs'
      · rw [va_up_self]
        intro k' g' hk'
        by_cases ek : k' = k
        · subst ek
          rw [va_up_self]
          omega
        · rw [va_up_ne _ _ ek]
          exact c4 k' g' hk'
    · rw [va_up_ne _ _ e]
      exact ⟨c1, c2, c3, c4⟩
  · have e : i ≠ a := by omega
    have := h2 i hi hin
    unfold ch_done at this ⊢
    rw [va_up_ne _ _ e]
    exact this
end

/-- h 0 + ... + h (k - 1) -/
def cn_sm (h : Nat → Nat) : Nat → Nat
  | 0 => 0
  | k + 1 => cn_sm h k + h k

theorem cn_sm_out {h : Nat → Nat} {j v : Nat} : ∀ k, k ≤ j → cn_sm (va_up h j v) k = cn_sm h k := by
  intro k
  induction k with
  | zero => intro _; rfl
  | succ k ih =>
    intro hk
    show cn_sm (va_up h j v) k + va_up h j v k = cn_sm h k + h k
    rw [ih (by omega), va_up_ne _ _ (by omega)]

theorem cn_sm_up {h : Nat → Nat} {j v : Nat} : ∀ k, j < k → cn_sm (va_up h j v) k + h j = cn_sm h k + v := by
  intro k
  induction k with
  | zero => intro hk; omega
  | succ k ih =>
    intro hk
    show cn_sm (va_up h j v) k + va_up h j v k + h j = cn_sm h k + h k + v
    by_cases e : k = j
    · subst e
      rw [va_up_self, cn_sm_out k (Nat.le_refl k)]
      omega
    · rw [va_up_ne _ _ e]
      have := ih (by omega)
      omega

theorem cn_sm_le {h : Nat → Nat} {M : Nat} : ∀ k, (∀ j, j < k → h j ≤ M) → cn_sm h k ≤ k * M := by
  intro k
  induction k with
  | zero => intro _; exact Nat.zero_le _
  | succ k ih =>
    intro hk
    have h1 := ih (fun j hj => hk j (by omega))
    have h2 := hk k (Nat.lt_succ_self k)
    show cn_sm h k + h k ≤ (k + 1) * M
    rw [Nat.add_mul, Nat.one_mul]
    omega

theorem cn_sm_congr {h h' : Nat → Nat} : ∀ k, (∀ j, j < k → h j = h' j) → cn_sm h k = cn_sm h' k := by
  intro k
  induction k with
  | zero => intro _; rfl
  | succ k ih =>
    intro hk
    show cn_sm h k + h k = cn_sm h' k + h' k
    rw [ih (fun j hj => hk j (by omega)), hk k (Nat.lt_succ_self k)]

/-- how many pairs were looked at -/
def cn_mu (n : Nat) (gn : Nat → Nat) (pr : Nat → Nat → Nat) : Nat := cn_sm (fun i => cn_sm (pr i) (gn i)) n

theorem cn_mu_le {n : Nat} {gn : Nat → Nat} {G : Nat → Nat → Nat → Nat} {pr : Nat → Nat → Nat} {sn : Nat → Nat} {sp : Nat → Nat → Nat} {ix : Nat → Nat → Option Nat} {wb : Nat → Nat → Nat → Nat}
    (hW : cn_W n gn G pr sn sp ix wb) (hn : n ≤ 24) : cn_mu n gn pr ≤ 20736 := by
  have h1 : ∀ i, i < n → cn_sm (pr i) (gn i) ≤ 864 := by
    intro i hi
    obtain ⟨_, _, h3, _, _, h6, _, _, _, _, h11⟩ := hW i hi
    have h2 := cn_sm_le (h := pr i) (M := 24) (gn i) (fun j hj => by have := h11 j hj; omega)
    have h4 : gn i * 24 ≤ 36 * 24 := Nat.mul_le_mul_right _ (by unfold lk_most at h3; omega)
    omega
  have h2 := cn_sm_le (h := fun i => cn_sm (pr i) (gn i)) (M := 864) n h1
  have h3 : n * 864 ≤ 24 * 864 := Nat.mul_le_mul_right _ hn
  unfold cn_mu
  omega

theorem cn_mu_pair {n : Nat} {gn : Nat → Nat} {pr : Nat → Nat → Nat} {a k : Nat} (ha : a < n) (hk : k < gn a) :
    cn_mu n gn (va_up pr a (va_up (pr a) k (pr a k + 1))) = cn_mu n gn pr + 1 := by
  unfold cn_mu
  have e : (fun i => cn_sm (va_up pr a (va_up (pr a) k (pr a k + 1)) i) (gn i)) = va_up (fun i => cn_sm (pr i) (gn i)) a (cn_sm (pr a) (gn a) + 1) := by
    funext i
    by_cases h : i = a
    · subst h
      rw [va_up_self, va_up_self]
      have := cn_sm_up (h := pr i) (j := k) (v := pr i k + 1) (gn i) hk
      omega
    · rw [va_up_ne _ _ h, va_up_ne _ _ h]
  rw [e]
  have := cn_sm_up (h := fun i => cn_sm (pr i) (gn i)) (j := a) (v := cn_sm (pr a) (gn a) + 1) n ha
  omega

theorem cn_mu_add {n : Nat} {gn : Nat → Nat} {pr : Nat → Nat → Nat} {b : Nat} (hb : b < n) :
    cn_mu n (va_up gn b (gn b + 1)) (va_up pr b (va_up (pr b) (gn b) 0)) = cn_mu n gn pr := by
  unfold cn_mu
  refine cn_sm_congr n (fun i hi => ?_)
  by_cases h : i = b
  · subst h
    rw [va_up_self, va_up_self]
    show cn_sm (va_up (pr i) (gn i) 0) (gn i) + va_up (pr i) (gn i) 0 (gn i) = cn_sm (pr i) (gn i)
    rw [va_up_self, cn_sm_out (gn i) (Nat.le_refl _)]
    rfl
  · rw [va_up_ne _ _ h, va_up_ne _ _ h]

/-- link a with one pair more -/
theorem lk_W_pair {n i gn : Nat} {G : Nat → Nat → Nat} {pr : Nat → Nat} {sn : Nat} {sp : Nat → Nat} {ix : Nat → Option Nat} {wb : Nat → Nat → Nat} (h : lk_W n i gn G pr sn sp ix wb) {k : Nat} (hk : pr k < sn) :
    lk_W n i gn G (va_up pr k (pr k + 1)) sn sp ix wb := by
  obtain ⟨h1, h2, h3, h4, h5, h6, h7, h8, h9, h10, h11⟩ := h
  refine ⟨h1, h2, h3, h4, h5, h6, h7, h8, h9, h10, fun j hj => ?_⟩
  by_cases e : j = k
  · rw [e, va_up_self]; omega
  · rw [va_up_ne _ _ e]; exact h11 j hj

theorem lk_W_wide {n i gn : Nat} {G : Nat → Nat → Nat} {pr : Nat → Nat} {sn : Nat} {sp : Nat → Nat} {ix : Nat → Option Nat} {wb : Nat → Nat → Nat} (h : lk_W n i gn G pr sn sp ix wb)
    {q : Nat} (hqi : i ≤ q) (hqn : q < n) (hx : ix q = none) {x : Nat → Nat} (hxs : gp_sym (ch_D n i) x) :
    lk_W n i gn G pr (sn + 1) (va_up sp sn q) (va_up ix q (some sn)) (va_up wb sn x) := by
  have hroom := lk_room h hqi hqn hx
  obtain ⟨h1, h2, h3, h4, h5, h6, h7, h8, h9, h10, h11⟩ := h
  refine ⟨h1, h2, h3, h4, by omega, by omega, ?_, ?_, ?_, ?_, fun j hj => by have := h11 j hj; omega⟩
  · rw [va_up_ne _ _ (by omega)]; exact h7
  · intro s hs
    by_cases e : s = sn
    · rw [e, va_up_self]; exact ⟨hqi, hqn⟩
    · rw [va_up_ne _ _ e]; exact h8 s (by omega)
  · intro p hp s
    by_cases ep : p = q
    · subst ep
      rw [va_up_self]
      constructor
      · intro e
        cases e
        exact ⟨Nat.lt_succ_self _, va_up_self ..⟩
      · rintro ⟨hs, e⟩
        by_cases es : s = sn
        · rw [es]
        · rw [va_up_ne _ _ es] at e
          have := (h9 p hp s).2 ⟨by omega, e⟩
          rw [hx] at this
          cases this
    · rw [va_up_ne _ _ ep, h9 p hp s]
      constructor
      · rintro ⟨hs, e⟩
        exact ⟨by omega, by rw [va_up_ne _ _ (by omega)]; exact e⟩
      · rintro ⟨hs, e⟩
        by_cases es : s = sn
        · rw [es, va_up_self] at e
          exact absurd e.symm ep
        · rw [va_up_ne _ _ es] at e
          exact ⟨by omega, e⟩
  · intro s hs
    by_cases e : s = sn
    · rw [e, va_up_self]; exact hxs
    · rw [va_up_ne _ _ e]; exact h10 s (by omega)

theorem lk_W_add {n i gn : Nat} {G : Nat → Nat → Nat} {pr : Nat → Nat} {sn : Nat} {sp : Nat → Nat} {ix : Nat → Option Nat} {wb : Nat → Nat → Nat} (h : lk_W n i gn G pr sn sp ix wb)
    (hm : gn < lk_most n i) {r : Nat → Nat} (hr : gp_sym (ch_D n i) r) : lk_W n i (gn + 1) (va_up G gn r) (va_up pr gn 0) sn sp ix wb := by
  obtain ⟨h1, h2, h3, h4, h5, h6, h7, h8, h9, h10, h11⟩ := h
  refine ⟨h1, h2, hm, fun j hj => ?_, h5, h6, h7, h8, h9, h10, fun j hj => ?_⟩
  · by_cases e : j = gn
    · rw [e, va_up_self]; exact hr
    · rw [va_up_ne _ _ e]; exact h4 j (by omega)
  · by_cases e : j = gn
    · rw [e, va_up_self]; exact Nat.zero_le _
    · rw [va_up_ne _ _ e]; exact h11 j (by omega)

theorem cn_W_link {n : Nat} {gn : Nat → Nat} {G : Nat → Nat → Nat → Nat} {pr : Nat → Nat → Nat} {sn : Nat → Nat} {sp : Nat → Nat → Nat} {ix : Nat → Nat → Option Nat} {wb : Nat → Nat → Nat → Nat}
    (h : cn_W n gn G pr sn sp ix wb) {i : Nat} {gn1 : Nat} {G1 : Nat → Nat → Nat} {pr1 : Nat → Nat} {sn1 : Nat} {sp1 : Nat → Nat} {ix1 : Nat → Option Nat} {wb1 : Nat → Nat → Nat}
    (h1 : lk_W n i gn1 G1 pr1 sn1 sp1 ix1 wb1) : cn_W n (va_up gn i gn1) (va_up G i G1) (va_up pr i pr1) (va_up sn i sn1) (va_up sp i sp1) (va_up ix i ix1) (va_up wb i wb1) := by
  intro j hj
  by_cases e : j = i
  · subst e
    simp only [va_up_self]
    exact h1
  · simp only [va_up_ne _ _ e]
    exact h j hj
end
end
section
/-! The class Chain: advance, complete. -/
section
/-- a cell of the chain's links, or its work row -/
def cn_tag (t : Nat) : Prop := t = 9 ∨ ∃ i, i < 24 ∧ lk_tag i t

/-- the chain's cells, its links well made, those from a on done -/
def cn_St (g : hl_G) (L : List Nat) (T : Nat → Nat) (ad : Nat → Nat → Nat → Nat) (n ch lO wk : Nat) (zL : Nat → Option Nat) (f : Nat → va_E) (gn : Nat → Nat) (G : Nat → Nat → Nat → Nat) (pr : Nat → Nat → Nat) (sn : Nat → Nat) (sp : Nat → Nat → Nat) (ix : Nat → Nat → Option Nat) (wb : Nat → Nat → Nat → Nat) (y : Nat → Nat) (a : Nat) : Prop :=
  cn_P g L f T ad n ch lO wk zL gn G pr sn sp ix wb y ∧ cn_W n gn G pr sn sp ix wb ∧ ch_inv n (cn_gs n gn G) pr sn sp wb a

theorem nI_m1 (x : Nat) : nI x - nI 1 = nI x + (-1) := by
  rw [Int32.sub_eq_add_neg]
  rfl

/-- private int advance(int at) -/
theorem c_H_advance (l : Launch) (g : hl_G) (sz : Nat) (L : List Nat) (f : Nat → va_E) (T : Nat → Nat) (ad : Nat → Nat → Nat → Nat) (n ch lO wk : Nat) (zL : Nat → Option Nat) (gn : Nat → Nat) (G : Nat → Nat → Nat → Nat) (pr : Nat → Nat → Nat) (sn : Nat → Nat) (sp : Nat → Nat → Nat) (ix : Nat → Nat → Option Nat) (wb : Nat → Nat → Nat → Nat) (y : Nat → Nat)
    (hn : n ≤ 24) (a : Nat) (ha : a < n) (hSt : cn_St g L T ad n ch lO wk zL f gn G pr sn sp ix wb y (a + 1)) :
    Met l y_H_advance (hq y_H_advance b_H_advance 5 (some .int)) { frames := 2, cells := 0, slots := 0, locals := 110 } (hm_P g [.ref ch, .int (nI a)] sz L f) (va_Qi (fun r u => ∃ (f1 : Nat → va_E) (gn1 : Nat → Nat) (G1 : Nat → Nat → Nat → Nat) (pr1 : Nat → Nat → Nat) (sn1 : Nat → Nat) (sp1 : Nat → Nat → Nat) (ix1 : Nat → Nat → Option Nat) (wb1 : Nat → Nat → Nat → Nat) (y1 : Nat → Nat) (a1 : Nat), u = (L, f1) ∧ r = nI a1 + (-1) ∧ a1 ≤ n ∧ cn_St g L T ad n ch lO wk zL f1 gn1 G1 pr1 sn1 sp1 ix1 wb1 y1 a1 ∧ cn_gs n gn1 G1 0 = cn_gs n gn G 0 ∧ 2 * (20736 - cn_mu n gn1 pr1) + a1 < 2 * (20736 - cn_mu n gn pr) + (a + 1) ∧ ∀ q, ¬ cn_tag (T q) → f1 q = f q) (hm_B g sz L) (hm_A sz L)) 0 0 (hm_A sz L) := by
  refine hm_ofW (by decide) (Nat.le_of_ble_eq_true rfl) ?_
  intro p e s m below meth c X hr hlk hnm hK hsz hh ls hl
  have hl : lv_has ls 5 [(0, .ref ch), (1, .int (nI a))] := hl
  obtain ⟨hC, hW, hinv⟩ := hSt
  have hok := hinv.1
  have hC0 := hC
  obtain ⟨⟨a1, a2, a3⟩, ⟨b1, b2, b3⟩, ⟨c1, c2, c3⟩, hlks⟩ := hC
  obtain ⟨z1, t1, l1⟩ := hlks a ha
  have hWa := hW a ha
  have hmu := cn_mu_le hW hn
  have hWt : ∀ q, ¬ cn_tag (T q) → ∀ i, i < n → ¬ lk_tag i (T q) := fun q hq i hi ht => hq (Or.inr ⟨i, by omega, ht⟩)
  refine lv_aload_n X.1 X.2.1 d_H_advance_0 rfl (lv_at hl 0 rfl) ?_
  refine hl_get X hK hh (ref := "CycleGroups$Chain") i_H (ci := 1) rfl 1 (by decide) w_143 rfl a1 a2 rfl d_H_advance_1 ?_
  refine lv_iload_n X.1 X.2.1 d_H_advance_4 rfl (lv_at hl 1 rfl) ?_
  refine hl_aaldL X hK hh b1 b2 (by omega) (by omega) z1 d_H_advance_5 ?_
  refine lv_astore_n (lv' := [(2, .ref (ad 0 a 0)), (0, .ref ch), (1, .int (nI a))]) X.1 X.2.1 d_H_advance_6 rfl hl (by decide) rfl (fun ls hl => ?_)
  refine lv_aload_n X.1 X.2.1 d_H_advance_7 rfl (lv_at hl 0 rfl) ?_
  refine hl_calli hh (hl_runV (k := 0) X hK hh (c_K_openGenerator l g _ L f ad n a (gn a) (G a) (pr a) (sn a) (sp a) (ix a) (wb a) l1 hWa) wc_K_openGenerator w_189 w_7 wi_K_openGenerator ws_K_openGenerator (by decide +kernel) rfl rfl ⟨Nat.le_of_ble_eq_true rfl, Nat.le_of_ble_eq_true rfl⟩ l1.1.1 l1.1.2 rfl rfl rfl rfl (Nat.le_of_ble_eq_true rfl) hl.1 d_H_advance_8 ⟨Nat.le_of_ble_eq_true rfl, Nat.le_of_ble_eq_true rfl⟩) (fun r u H locs hp hh => ?_)
  obtain ⟨hp, rfl⟩ := hp
  rcases hp with ⟨k, hk, hpk, rfl⟩ | ⟨rfl, hall⟩
  · skip
    refine lv_istore_n (lv' := [(3, .int (nI k)), (2, .ref (ad 0 a 0)), (0, .ref ch), (1, .int (nI a))]) X.1 X.2.1 d_H_advance_11 rfl hl (by decide) rfl (fun ls hl => ?_)
    refine lv_iload_n X.1 X.2.1 d_H_advance_12 rfl (lv_at hl 0 rfl) ?_
    refine lv_if_ge (tgt := 20) X.1 X.2.1 d_H_advance_13 (by decide) (fun hc => ?_) (fun hc => ?_)
    · have hGk := hWa.2.2.2.1 k hk
      have hwk := hWa.2.2.2.2.2.2.2.2.2.1 (pr a k) hpk
      obtain ⟨g1, hgi⟩ := hGk.1
      obtain ⟨w1, hwi⟩ := hwk.1
      have hspk := hWa.2.2.2.2.2.2.2.1 (pr a k) hpk
      have hqD := ch_D_mem.1 (gp_sym_mem hGk (ch_D_mem.2 hspk))
      have hgk : (cn_gs n gn G a)[k]? = some (G a k) := cn_gs_at ha hk
      have hmu1 := cn_mu_pair (pr := pr) ha hk
      refine lv_aload_n X.1 X.2.1 d_H_advance_20 rfl (lv_at hl 1 rfl) ?_
      refine lv_iload_n X.1 X.2.1 d_H_advance_21 rfl (lv_at hl 0 rfl) ?_
      refine lv_aload_n X.1 X.2.1 d_H_advance_22 rfl (lv_at hl 2 rfl) ?_
      refine hl_get X hK hh (ref := "CycleGroups$Chain") i_H (ci := 1) rfl 2 (by decide) w_144 rfl a1 a2 rfl d_H_advance_23 ?_
      refine hl_calli hh (hl_runV (k := 2) X hK hh (c_K_reaches l g _ L f T ad n a (gn a) (G a) (pr a) (sn a) (sp a) (ix a) (wb a) l1 hWa t1 k hk hpk g1 w1 hgi hwi wk y c1 c2 c3) wc_K_reachesNewPlace w_193 w_7 wi_K_reachesNewPlace ws_K_reachesNewPlace (by decide +kernel) rfl rfl ⟨Nat.le_of_ble_eq_true rfl, Nat.le_of_ble_eq_true rfl⟩ l1.1.1 l1.1.2 rfl rfl rfl rfl (Nat.le_of_ble_eq_true rfl) hl.1 d_H_advance_26 ⟨Nat.le_of_ble_eq_true rfl, Nat.le_of_ble_eq_true rfl⟩) (fun r u H locs hp hh => ?_)
      rcases hp with ⟨hx, rfl, f1, rfl, hP1, hfr1⟩ | ⟨t, hx, rfl, f1, rfl, hP1, hfr1⟩
      · skip
        refine hn_zeq (tgt := 34) X (by omega) d_H_advance_29 (by decide) (fun hc => ?_) (fun hc => ?_)
        · exact absurd hc (by decide)
        · skip
          refine lv_iload_n X.1 X.2.1 d_H_advance_32 rfl (lv_at hl 3 rfl) ?_
          have hC1 := cn_link hn hC0 ha hP1 hfr1
          have hW1 := cn_W_link hW (lk_W_wide (lk_W_pair hWa hpk) hqD.1 hqD.2 hx ((gp_sym_sg _).2.1 _ _ hwk (gp_sym_inv hGk hgi)))
          have hI1 := ch_wide hinv ha hgk rfl hpk hgi (fun t0 ht0 e0 => by
            have := (hWa.2.2.2.2.2.2.2.2.1 _ hqD.2 t0).2 ⟨ht0, e0⟩
            rw [hx] at this
            cases this)
          rw [hr_id, hr_id] at hC1 hW1
          refine hm_iret X hr hlk hh ⟨f1, gn, G, _, _, _, _, _, y, a + 1, rfl, (pk_m1 a).symm, by omega, ⟨hC1, hW1, hI1⟩, rfl, ?_, fun q hq => hfr1 q (hWt q hq a ha)⟩ (Nat.le_of_ble_eq_true rfl) (Nat.le_of_ble_eq_true rfl) d_H_advance_33
          have hmu2 := cn_mu_le hW1 hn
          rw [hmu1] at hmu2 ⊢
          omega
      · obtain ⟨ht1, ht2⟩ := (hWa.2.2.2.2.2.2.2.2.1 _ hqD.2 t).1 hx
        have hCl := cn_link hn hC0 ha hP1 hfr1
        have hW1 := cn_W_link hW (lk_W_pair hWa hpk)
        simp only [hr_id] at hCl hW1
        have hC1 := cn_work hn hCl (wb a t ∘ G a k ∘ w1)
        have hmu2 := cn_mu_le hW1 hn
        rw [hmu1] at hmu2
        have hu : (wb a t ∘ G a k ∘ w1) ∘ wb a (pr a k) = wb a t ∘ G a k := by
          funext p
          show wb a t (G a k (w1 (wb a (pr a k) p))) = _
          rw [hwi.2]
          rfl
        obtain ⟨huG, huS⟩ := ch_round hok ha (List.mem_of_getElem? hgk) hpk ht1 ht2 hu
        have hfrw : ∀ q, ¬ cn_tag (T q) → va_up f1 wk (hl_nat g n (wb a t ∘ G a k ∘ w1)) q = f q := by
          intro q hq
          rw [va_up_ne _ _ (hl_ne (T := T) (by rw [c3]; exact fun e0 => hq (Or.inl e0)))]
          exact hfr1 q (hWt q hq a ha)
        have done : ch_G (cn_gs n gn G (a + 1)) (wb a t ∘ G a k ∘ w1) → ch_inv n (cn_gs n gn G) (va_up pr a (va_up (pr a) k (pr a k + 1))) sn sp wb (a + 1) := fun hin =>
          ch_pair2 hinv (Nat.lt_succ_self a) ha hgk rfl hpk ht1 ht2 hu hin
        obtain ⟨⟨_, d2, _⟩, ⟨_, e2, _⟩, ⟨_, g2, _⟩, hl3⟩ := id hC1
        refine hn_zeq (tgt := 34) X (by omega) d_H_advance_29 (by decide) (fun hc => ?_) (fun hc => ?_)
        · skip
          refine lv_iload_n X.1 X.2.1 d_H_advance_34 rfl (lv_at hl 3 rfl) ?_
          refine lv_iconst (v := nI 1) X.1 X.2.1 d_H_advance_35 (by decide) ?_
          refine hn_add X d_H_advance_36 ?_
          refine lv_istore (lv' := [(4, .int (nI (a + 1))), (3, .int (nI k)), (2, .ref (ad 0 a 0)), (0, .ref ch), (1, .int (nI a))]) X.1 X.2.1 d_H_advance_37 hl (by decide) rfl (fun ls hl => ?_)
          refine lv_iload X.1 X.2.1 d_H_advance_39 (lv_at hl 0 rfl) ?_
          refine lv_aload_n X.1 X.2.1 d_H_advance_41 rfl (lv_at hl 3 rfl) ?_
          refine hl_get X hK hh (ref := "CycleGroups$Chain") i_H (ci := 1) rfl 0 (by decide) w_142 rfl a1 d2 rfl d_H_advance_42 ?_
          refine hn_ige (tgt := 61) X (by omega) (by omega) d_H_advance_45 (by decide) (fun hc => ?_) (fun hc => ?_)
          · have e0 : n = a + 1 := by omega
            refine lv_iload_n X.1 X.2.1 d_H_advance_61 rfl (lv_at hl 4 rfl) ?_
            refine hm_iret X hr hlk hh ⟨_, gn, G, _, sn, sp, ix, wb, _, a + 1, rfl, (pk_m1 a).symm, by omega, ⟨hC1, hW1, done ?_⟩, rfl, ?_, hfrw⟩ (Nat.le_of_ble_eq_true rfl) (Nat.le_of_ble_eq_true rfl) d_H_advance_62
            · have hid : (wb a t ∘ G a k ∘ w1) = id := by
                funext p
                exact huS.2 p (fun hm => by have := ch_D_mem.1 hm; omega)
              rw [hid]
              exact gp_gen_id
            · rw [hmu1]; omega
          · have hb : a + 1 < n := hc
            refine lv_aload_n X.1 X.2.1 d_H_advance_48 rfl (lv_at hl 3 rfl) ?_
            refine lv_iload X.1 X.2.1 d_H_advance_49 (lv_at hl 0 rfl) ?_
            refine hl_calli hh (hl_runV (k := 1) X hK hh (c_H_siftWork l g _ L _ T ad n ch lO wk zL gn G _ sn sp ix wb _ hn hC1 hW1 pr hok (a + 1) (by omega) huS) wc_H_siftWork w_167 w_6 wi_H_siftWork ws_H_siftWork (by decide +kernel) rfl rfl ⟨Nat.le_of_ble_eq_true rfl, Nat.le_of_ble_eq_true rfl⟩ a1 d2 rfl rfl rfl rfl (Nat.le_of_ble_eq_true rfl) hl.1 d_H_advance_51 ⟨Nat.le_of_ble_eq_true rfl, Nat.le_of_ble_eq_true rfl⟩) (fun r u H locs hp hh => ?_)
            obtain ⟨j, x, hbj, hjn, rfl, hx1, rfl, hfix, hstop⟩ := hp
            have hsgb := ch_sg hok (Nat.le_of_lt hb)
            obtain ⟨x1, hx1G, hxi⟩ := hsgb.2.2 x hx1
            have hC2 := cn_work hn hC1 (x ∘ (wb a t ∘ G a k ∘ w1))
            obtain ⟨⟨_, d4, _⟩, ⟨_, e4, _⟩, ⟨_, g4, _⟩, hl4⟩ := id hC2
            have hfrx : ∀ q, ¬ cn_tag (T q) → va_up (va_up f1 wk (hl_nat g n (wb a t ∘ G a k ∘ w1))) wk (hl_nat g n (x ∘ (wb a t ∘ G a k ∘ w1))) q = f q := by
              intro q hq
              rw [va_up_ne _ _ (hl_ne (T := T) (by rw [c3]; exact fun e0 => hq (Or.inl e0)))]
              exact hfrw q hq
            have hback : x1 ∘ (x ∘ (wb a t ∘ G a k ∘ w1)) = wb a t ∘ G a k ∘ w1 := by
              funext p
              exact hxi.2 _
            obtain ⟨z5, t5, l5⟩ := hl4 (a + 1) hb
            refine lv_aload_n X.1 X.2.1 d_H_advance_54 rfl (lv_at hl 3 rfl) ?_
            refine hl_get X hK hh (ref := "CycleGroups$Chain") i_H (ci := 1) rfl 0 (by decide) w_142 rfl a1 d4 rfl d_H_advance_55 ?_
            refine hn_ilt (tgt := 63) X (by omega) (by omega) d_H_advance_58 (by decide) (fun hc => ?_) (fun hc => ?_)
            · have hjlt : j < n := hc
              have hrS : gp_sym (ch_D n (a + 1)) (x ∘ (wb a t ∘ G a k ∘ w1)) := (gp_sym_sg _).2.1 _ _ (ch_in_sym hok (Nat.le_of_lt hb) x hx1) huS
              have hnr : ¬ ch_G (cn_gs n gn G (a + 1)) (x ∘ (wb a t ∘ G a k ∘ w1)) := by
                intro hin
                have huin : ch_G (cn_gs n gn G (a + 1)) (wb a t ∘ G a k ∘ w1) := by
                  rw [← hback]; exact gp_gen_comp hx1G hin
                exact ch_fails hok (fun i h1 h2 => hinv.2.1 i h1 h2) hbj hjlt hx1 hfix (hstop hjlt) ⟨_, huin, fun _ _ _ => rfl⟩
              have hsub : gp_sub (ch_G (cn_gs n gn G (a + 1))) (ch_G (cn_gs n gn G a)) := gp_gen_sub (hok.2 a ha).2.2.1
              have hI1 := ch_add hinv hb hrS hnr (fun i hi => by
                have e0 : i = a := by omega
                subst e0
                exact gp_gen_comp (hsub x hx1) huG)
              rw [cn_gs_len hb] at hI1
              have hmost := ch_most hI1 hn hb (Or.inl (Nat.succ_pos a))
              rw [va_up_self, List.length_append, cn_gs_len hb] at hmost
              have hgm : gn (a + 1) < lk_most n (a + 1) := hmost
              have hab : a ≠ a + 1 := by omega
              have hI2 := ch_pair2 (a := a) (k := k) (s := pr a k) (t := t) (g := G a k) (u := wb a t ∘ G a k ∘ w1) hI1 (by omega) ha (by rw [va_up_ne _ _ hab]; exact hgk) (by rw [va_up_ne _ _ hab]) hpk ht1 ht2 hu (by
                rw [va_up_self]
                have h1 : ch_G (cn_gs n gn G (a + 1) ++ [x ∘ (wb a t ∘ G a k ∘ w1)]) (x1 ∘ (x ∘ (wb a t ∘ G a k ∘ w1))) := gp_gen_comp (gp_gen_mono (fun t0 h0 => List.mem_append_left _ h0) x1 hx1G) (gp_gen_mem (List.mem_append_right _ (List.mem_singleton.2 rfl)))
                rw [hback] at h1
                exact h1)
              rw [va_up_ne _ _ hab, hr_comm _ _ _ (Ne.symm hab), ← cn_gs_add hb] at hI2
              refine lv_aload_n X.1 X.2.1 d_H_advance_63 rfl (lv_at hl 3 rfl) ?_
              refine hl_get X hK hh (ref := "CycleGroups$Chain") i_H (ci := 1) rfl 1 (by decide) w_143 rfl a1 d4 rfl d_H_advance_64 ?_
              refine lv_iload X.1 X.2.1 d_H_advance_67 (lv_at hl 0 rfl) ?_
              refine hl_aaldL X hK hh b1 e4 (by omega) (by omega) z5 d_H_advance_69 ?_
              refine lv_aload_n X.1 X.2.1 d_H_advance_70 rfl (lv_at hl 3 rfl) ?_
              refine hl_get X hK hh (ref := "CycleGroups$Chain") i_H (ci := 1) rfl 2 (by decide) w_144 rfl a1 d4 rfl d_H_advance_71 ?_
              refine hl_callv hh (hl_runV (k := 1) X hK hh (c_K_addGenerator l g _ L _ T ad n (a + 1) (gn (a + 1)) (G (a + 1)) _ (sn (a + 1)) (sp (a + 1)) (ix (a + 1)) (wb (a + 1)) l5 hn t5 hgm wk _ c1 g4 c3) wc_K_addGenerator w_175 w_7 wi_K_addGenerator ws_K_addGenerator (by decide +kernel) rfl rfl ⟨Nat.le_of_ble_eq_true rfl, Nat.le_of_ble_eq_true rfl⟩ l5.1.1 l5.1.2 rfl rfl rfl rfl (Nat.le_of_ble_eq_true rfl) hl.1 d_H_advance_74 ⟨Nat.le_of_ble_eq_true rfl, Nat.le_of_ble_eq_true rfl⟩) (fun u H locs hp hh => ?_)
              obtain ⟨f3, rfl, hP3, hfr3⟩ := hp
              refine lv_iload X.1 X.2.1 d_H_advance_77 (lv_at hl 0 rfl) ?_
              have hC3 := cn_link hn hC2 hb hP3 hfr3
              have hW3 := cn_W_link hW1 (lk_W_add (hW1 (a + 1) hb) hgm hrS)
              simp only [hr_id] at hC3 hW3
              have hpe : (va_up pr a (va_up (pr a) k (pr a k + 1))) (a + 1) = pr (a + 1) := va_up_ne _ _ (Ne.symm hab)
              rw [hpe] at hC3 hW3
              refine hm_iret X hr hlk hh ⟨f3, _, _, _, sn, sp, ix, wb, _, a + 1 + 1, rfl, (pk_m1 (a + 1)).symm, by omega, ⟨hC3, hW3, hI2⟩, ?_, ?_, fun q hq => (hfr3 q (hWt q hq (a + 1) hb)).trans (hfrx q hq)⟩ (Nat.le_of_ble_eq_true rfl) (Nat.le_of_ble_eq_true rfl) d_H_advance_79
              · rw [cn_gs_add hb, va_up_ne _ _ (by omega)]
              · have h7 := cn_mu_add (gn := gn) (pr := va_up pr a (va_up (pr a) k (pr a k + 1))) hb
                rw [hpe] at h7
                rw [h7, hmu1]
                omega
            · have e0 : j = n := by omega
              subst e0
              refine lv_iload_n X.1 X.2.1 d_H_advance_61 rfl (lv_at hl 4 rfl) ?_
              refine hm_iret X hr hlk hh ⟨_, gn, G, _, sn, sp, ix, wb, _, a + 1, rfl, (pk_m1 a).symm, by omega, ⟨hC2, hW1, done ?_⟩, rfl, ?_, hfrx⟩ (Nat.le_of_ble_eq_true rfl) (Nat.le_of_ble_eq_true rfl) d_H_advance_62
              · have hid : x ∘ (wb a t ∘ G a k ∘ w1) = id := by
                  funext p
                  by_cases hp2 : a + 1 ≤ p ∧ p < j
                  · exact hfix p hp2.1 hp2.2
                  · have h1 : (wb a t ∘ G a k ∘ w1) p = p := huS.2 p (fun hm => hp2 (ch_D_mem.1 hm))
                    have h2 := (ch_in_sym hok (Nat.le_of_lt hb) x hx1).2 p (fun hm => hp2 (ch_D_mem.1 hm))
                    show x ((wb a t ∘ G a k ∘ w1) p) = p
                    rw [h1, h2]
                rw [hid] at hback
                rw [← hback]
                exact hx1G
              · rw [hmu1]; omega
        · exact absurd rfl hc
    · exact absurd (nI_pos' (by have := hWa.2.2.1; unfold lk_most at this; omega)) hc
  · skip
    refine lv_istore_n (lv' := [(3, .int (-1)), (2, .ref (ad 0 a 0)), (0, .ref ch), (1, .int (nI a))]) X.1 X.2.1 d_H_advance_11 rfl hl (by decide) rfl (fun ls hl => ?_)
    refine lv_iload_n X.1 X.2.1 d_H_advance_12 rfl (lv_at hl 0 rfl) ?_
    refine lv_if_ge (tgt := 20) X.1 X.2.1 d_H_advance_13 (by decide) (fun hc => ?_) (fun hc => ?_)
    · exact absurd hc (by decide)
    · skip
      refine lv_iload_n X.1 X.2.1 d_H_advance_16 rfl (lv_at hl 3 rfl) ?_
      refine lv_iconst (v := nI 1) X.1 X.2.1 d_H_advance_17 (by decide) ?_
      refine lv_isub X.1 X.2.1 d_H_advance_18 ?_
      rw [nI_m1]
      refine hm_iret X hr hlk hh ⟨f, gn, G, pr, sn, sp, ix, wb, y, a, rfl, rfl, by omega, ⟨hC0, hW, ch_pop hinv (fun _ => ?_)⟩, rfl, by omega, fun q _ => rfl⟩ (Nat.le_of_ble_eq_true rfl) (Nat.le_of_ble_eq_true rfl) d_H_advance_19
      intro k0 x0 hk0
      exact hall k0 (cn_gs_of ha hk0).1
end
end
section
/-! The class Chain: complete, build. -/
section
/-- private void complete() -/
theorem c_H_complete (l : Launch) (g : hl_G) (sz : Nat) (L : List Nat) (f : Nat → va_E) (T : Nat → Nat) (ad : Nat → Nat → Nat → Nat) (n ch lO wk : Nat) (zL : Nat → Option Nat) (gn : Nat → Nat) (G : Nat → Nat → Nat → Nat) (pr : Nat → Nat → Nat) (sn : Nat → Nat) (sp : Nat → Nat → Nat) (ix : Nat → Nat → Option Nat) (wb : Nat → Nat → Nat → Nat) (y : Nat → Nat)
    (hn0 : 0 < n) (hn : n ≤ 24) (hSt : cn_St g L T ad n ch lO wk zL f gn G pr sn sp ix wb y 1) :
    Met l y_H_complete (hq y_H_complete b_H_complete 3 none) { frames := 3, cells := 0, slots := 0, locals := 140 } (hm_P g [.ref ch] sz L f) (va_Qv (fun u => ∃ (f1 : Nat → va_E) (gn1 : Nat → Nat) (G1 : Nat → Nat → Nat → Nat) (pr1 : Nat → Nat → Nat) (sn1 : Nat → Nat) (sp1 : Nat → Nat → Nat) (ix1 : Nat → Nat → Option Nat) (wb1 : Nat → Nat → Nat → Nat) (y1 : Nat → Nat), u = (L, f1) ∧ cn_St g L T ad n ch lO wk zL f1 gn1 G1 pr1 sn1 sp1 ix1 wb1 y1 0 ∧ cn_gs n gn1 G1 0 = cn_gs n gn G 0 ∧ ∀ q, ¬ cn_tag (T q) → f1 q = f q) (hm_B g sz L) (hm_A sz L)) 0 0 (hm_A sz L) := by
  refine hm_ofW (by decide) (Nat.le_of_ble_eq_true rfl) ?_
  intro p e s m below meth c X hr hlk hnm hK hsz hh ls hl
  have hl : lv_has ls 3 [(0, .ref ch)] := hl
  have loop : ∀ (t : Nat) (f1 : Nat → va_E) (gn1 : Nat → Nat) (G1 : Nat → Nat → Nat → Nat) (pr1 : Nat → Nat → Nat) (sn1 : Nat → Nat) (sp1 : Nat → Nat → Nat) (ix1 : Nat → Nat → Option Nat) (wb1 : Nat → Nat → Nat → Nat) (y1 : Nat → Nat) (a k : Nat) (H : Heap) (locs : List Loc) (ls : Array Slot),
      2 * (20736 - cn_mu n gn1 pr1) + a ≤ t → k + (2 * (20736 - cn_mu n gn1 pr1) + a) ≤ 50000 → a ≤ n → cn_St g L T ad n ch lO wk zL f1 gn1 G1 pr1 sn1 sp1 ix1 wb1 y1 a → cn_gs n gn1 G1 0 = cn_gs n gn G 0 → (∀ q, ¬ cn_tag (T q) → f1 q = f q) →
      hl_H g (hm_A sz L) s.heap L f1 H locs → lv_has ls 3 [(2, .int (nI k)), (1, .int (nI a + (-1))), (0, .ref ch)] →
      W p l e { frames := 3, cells := 0, slots := 0, locals := 140 } s m #[.ref ch] below meth c H locs 0 0 (MQ below (va_Qv (fun u => ∃ (f1 : Nat → va_E) (gn1 : Nat → Nat) (G1 : Nat → Nat → Nat → Nat) (pr1 : Nat → Nat → Nat) (sn1 : Nat → Nat) (sp1 : Nat → Nat → Nat) (ix1 : Nat → Nat → Option Nat) (wb1 : Nat → Nat → Nat → Nat) (y1 : Nat → Nat), u = (L, f1) ∧ cn_St g L T ad n ch lO wk zL f1 gn1 G1 pr1 sn1 sp1 ix1 wb1 y1 0 ∧ cn_gs n gn1 G1 0 = cn_gs n gn G 0 ∧ ∀ q, ¬ cn_tag (T q) → f1 q = f q) (hm_B g sz L) (hm_A sz L)) #[.ref ch] s 0 0 (hm_A sz L)) (F0 m 4 ls []) := by
    intro t
    induction t with
    | zero =>
      intro f1 gn1 G1 pr1 sn1 sp1 ix1 wb1 y1 a k H locs ls h1 h2 h3 hSt1 hgs hfr hh hl
      have e0 : a = 0 := by omega
      subst e0
      refine lv_iload_n X.1 X.2.1 d_H_complete_4 rfl (lv_at hl 1 rfl) ?_
      refine lv_if_lt (tgt := 26) X.1 X.2.1 d_H_complete_5 (by decide) (fun hc => ?_) (fun hc => ?_)
      · skip
        exact hm_vret X hr hlk hh ⟨f1, gn1, G1, pr1, sn1, sp1, ix1, wb1, y1, rfl, hSt1, hgs, hfr⟩ (Nat.le_of_ble_eq_true rfl) (Nat.le_of_ble_eq_true rfl) d_H_complete_26
      · exact absurd (show (nI 0 + (-1) : Int32) < 0 by decide) hc
    | succ t ih =>
      intro f1 gn1 G1 pr1 sn1 sp1 ix1 wb1 y1 a k H locs ls h1 h2 h3 hSt1 hgs hfr hh hl
      cases a with
      | zero =>
        refine lv_iload_n X.1 X.2.1 d_H_complete_4 rfl (lv_at hl 1 rfl) ?_
        refine lv_if_lt (tgt := 26) X.1 X.2.1 d_H_complete_5 (by decide) (fun hc => ?_) (fun hc => ?_)
        · skip
          exact hm_vret X hr hlk hh ⟨f1, gn1, G1, pr1, sn1, sp1, ix1, wb1, y1, rfl, hSt1, hgs, hfr⟩ (Nat.le_of_ble_eq_true rfl) (Nat.le_of_ble_eq_true rfl) d_H_complete_26
        · exact absurd (show (nI 0 + (-1) : Int32) < 0 by decide) hc
      | succ a =>
        rw [pk_m1] at hl
        refine lv_iload_n X.1 X.2.1 d_H_complete_4 rfl (lv_at hl 1 rfl) ?_
        refine lv_if_lt (tgt := 26) X.1 X.2.1 d_H_complete_5 (by decide) (fun hc => ?_) (fun hc => ?_)
        · exact absurd hc (nI_pos (by omega))
        · skip
          refine lv_iload_n X.1 X.2.1 d_H_complete_8 rfl (lv_at hl 0 rfl) ?_
          refine lv_ldc (v := nI 1000000) X.1 X.2.1 X.2.2.2.1 (X.2.2.2.2 _ w_184) d_H_complete_9 ?_
          refine hn_ige (tgt := 26) X (by omega) (by omega) d_H_complete_11 (by decide) (fun hc => ?_) (fun hc => ?_)
          · omega
          · skip
            refine lv_aload_n X.1 X.2.1 d_H_complete_14 rfl (lv_at hl 2 rfl) ?_
            refine lv_iload_n X.1 X.2.1 d_H_complete_15 rfl (lv_at hl 1 rfl) ?_
            refine hl_calli hh (hl_runV (k := 1) X hK hh (c_H_advance l g _ L f1 T ad n ch lO wk zL gn1 G1 pr1 sn1 sp1 ix1 wb1 y1 hn a h3 hSt1) wc_H_advance w_185 w_6 wi_H_advance ws_H_advance (by decide +kernel) rfl rfl ⟨Nat.le_of_ble_eq_true rfl, Nat.le_of_ble_eq_true rfl⟩ hSt1.1.1.1 hSt1.1.1.2.1 rfl rfl rfl rfl (Nat.le_of_ble_eq_true rfl) hl.1 d_H_complete_16 ⟨Nat.le_of_ble_eq_true rfl, Nat.le_of_ble_eq_true rfl⟩) (fun r u H locs hp hh => ?_)
            obtain ⟨f2, gn2, G2, pr2, sn2, sp2, ix2, wb2, y2, a2, rfl, rfl, ha2, hSt2, hgs2, hM, hfr2⟩ := hp
            refine lv_istore_n (lv' := [(1, .int (nI a2 + (-1))), (2, .int (nI k)), (0, .ref ch)]) X.1 X.2.1 d_H_complete_19 rfl hl (by decide) rfl (fun ls hl => ?_)
            refine lv_iinc (v := nI (k + 1)) (lv' := [(2, .int (nI (k + 1))), (1, .int (nI a2 + (-1))), (0, .ref ch)]) X.1 X.2.1 d_H_complete_20 hl (k := 1) rfl (hn_inc _) (by decide) rfl (fun ls hl => ?_)
            refine lv_goto (tgt := 4) X.1 X.2.1 d_H_complete_23 (by decide) ?_
            exact ih f2 gn2 G2 pr2 sn2 sp2 ix2 wb2 y2 a2 (k + 1) H locs ls (by omega) (by omega) ha2 hSt2 (hgs2.trans hgs) (fun q hq => (hfr2 q hq).trans (hfr q hq)) hh (lv_sub hl [0, 1, 2] rfl)
  have hl1 : ∀ ls : Array Slot, lv_has ls 3 [(2, .int (nI 0)), (1, .int (nI 0)), (0, .ref ch)] → lv_has ls 3 [(2, .int (nI 0)), (1, .int (nI 1 + (-1))), (0, .ref ch)] := fun ls h => by
    have e1 : (nI 1 + (-1) : Int32) = nI 0 := by decide
    rw [e1]; exact h
  refine lv_iconst (v := nI 0) X.1 X.2.1 d_H_complete_0 (by decide) ?_
  refine lv_istore_n (lv' := [(1, .int (nI 0)), (0, .ref ch)]) X.1 X.2.1 d_H_complete_1 rfl hl (by decide) rfl (fun ls hl => ?_)
  refine lv_iconst (v := nI 0) X.1 X.2.1 d_H_complete_2 (by decide) ?_
  refine lv_istore_n (lv' := [(2, .int (nI 0)), (1, .int (nI 0)), (0, .ref ch)]) X.1 X.2.1 d_H_complete_3 rfl hl (by decide) rfl (fun ls hl => ?_)
  exact loop 41473 f gn G pr sn sp ix wb y 1 0 s.heap [] ls (by omega) (by omega) hn0 hSt rfl (fun q _ => rfl) hh (hl1 ls hl)

/-- the chain of no rows -/
theorem ch_empty {n : Nat} {sp : Nat → Nat → Nat} {wb : Nat → Nat → gp_f} {gs : Nat → List gp_f} {pr : Nat → Nat → Nat} {sn : Nat → Nat} (hgs : ∀ i, i ≤ n → gs i = []) (hsn : ∀ i, i < n → sn i = 1) (hsp : ∀ i, i < n → sp i 0 = i) (hwb : ∀ i, i < n → wb i 0 = id) : ch_inv n gs pr sn sp wb 0 := by
  refine ⟨⟨hgs n (Nat.le_refl n), fun i hi => ⟨⟨?_, ?_, hsp i hi, hwb i hi, ?_, ?_⟩, ?_, ?_, ?_⟩⟩, ?_, ?_⟩
  · rw [hgs i (Nat.le_of_lt hi)]; intro g hg; exact absurd hg (List.not_mem_nil)
  · rw [hsn i hi]; decide
  · intro s hs
    rw [hsn i hi] at hs
    have e0 : s = 0 := by omega
    subst e0
    rw [hwb i hi]
    exact ⟨gp_gen_id, hsp i hi⟩
  · intro s t hs ht _
    rw [hsn i hi] at hs ht
    omega
  · rw [hgs i (Nat.le_of_lt hi)]
    intro k g hk
    simp at hk
  · rw [hgs (i + 1) hi]; intro g hg; exact absurd hg (List.not_mem_nil)
  · rw [hgs i (Nat.le_of_lt hi)]
    intro k g hk
    simp at hk
  · intro i _ hi
    rw [show ch_done gs pr sn i = ∀ k g, (gs i)[k]? = some g → sn i ≤ pr i k from rfl, hgs i (Nat.le_of_lt hi)]
    intro k g hk
    simp at hk
  · intro i hi
    rw [hgs i (Nat.le_of_lt hi)]
    exact gp_gen_sg (D := []) List.nodup_nil (fun t ht => absurd ht (List.not_mem_nil))

/-- a link's well made again when it is cleared -/
theorem lk_W_clear {n i gn : Nat} {G : Nat → Nat → Nat} {pr : Nat → Nat} {sn : Nat} {sp : Nat → Nat} {ix : Nat → Option Nat} {wb : Nat → Nat → Nat} (h : lk_W n i gn G pr sn sp ix wb) :
    lk_W n i 0 G pr 1 sp (fun p => if p = i then some 0 else none) wb := by
  obtain ⟨h1, h2, h3, h4, h5, h6, h7, h8, h9, h10, h11⟩ := h
  refine ⟨h1, h2, Nat.zero_le _, fun j hj => absurd hj (Nat.not_lt_zero _), by decide, by omega, h7, fun s hs => h8 s (by omega), fun p hp s => ?_, fun s hs => h10 s (by omega), fun j hj => absurd hj (Nat.not_lt_zero _)⟩
  show (if p = i then some 0 else none) = some s ↔ s < 1 ∧ sp s = p
  by_cases e : p = i
  · rw [if_pos e]
    constructor
    · intro e2
      cases e2
      exact ⟨by decide, by rw [h7, e]⟩
    · rintro ⟨hs, _⟩
      have e2 : s = 0 := by omega
      rw [e2]
  · rw [if_neg e]
    constructor
    · intro e2; cases e2
    · rintro ⟨hs, e2⟩
      have e3 : s = 0 := by omega
      rw [e3, h7] at e2
      exact absurd e2.symm e

/-- the first c of the moves -/
abbrev mv_T (mv : Nat → gp_f) (c : Nat) : gp_f → Prop := fun h => ∃ i, i < c ∧ h = mv i

/-- void build(int[][] moves, int count) -/
theorem c_H_build (l : Launch) (g : hl_G) (sz : Nat) (L : List Nat) (f : Nat → va_E) (T : Nat → Nat) (ad : Nat → Nat → Nat → Nat) (n ch lO wk : Nat) (zL : Nat → Option Nat) (gn : Nat → Nat) (G : Nat → Nat → Nat → Nat) (pr : Nat → Nat → Nat) (sn : Nat → Nat) (sp : Nat → Nat → Nat) (ix : Nat → Nat → Option Nat) (wb : Nat → Nat → Nat → Nat) (y : Nat → Nat)
    (hn0 : 0 < n) (hn : n ≤ 24) (hC : cn_P g L f T ad n ch lO wk zL gn G pr sn sp ix wb y) (hW : cn_W n gn G pr sn sp ix wb) (hid : ∀ i, i < n → wb i 0 = id)
    (mO cn : Nat) (zM : Nat → Option Nat) (mR : Nat → Nat) (mv : Nat → Nat → Nat) (hmO : mO ∈ L) (hfm : f mO = hl_grd g 10 zM) (hTm : T mO = 1) (hcn : cn ≤ 10) (hrows : hl_rows g L f n zM mR mv cn) (hTr : ∀ i, i < cn → T (mR i) = 10 + i) (hmv : ∀ i, i < cn → gp_sym (ch_D n 0) (mv i)) :
    Met l y_H_build (hq y_H_build b_H_build 4 none) { frames := 4, cells := 0, slots := 0, locals := 170 } (hm_P g [.ref ch, .ref mO, .int (nI cn)] sz L f) (va_Qv (fun u => ∃ (f1 : Nat → va_E) (gn1 : Nat → Nat) (G1 : Nat → Nat → Nat → Nat) (pr1 : Nat → Nat → Nat) (sn1 : Nat → Nat) (sp1 : Nat → Nat → Nat) (ix1 : Nat → Nat → Option Nat) (wb1 : Nat → Nat → Nat → Nat) (y1 : Nat → Nat), u = (L, f1) ∧ cn_St g L T ad n ch lO wk zL f1 gn1 G1 pr1 sn1 sp1 ix1 wb1 y1 0 ∧ (∀ x, ch_G (cn_gs n gn1 G1 0) x ↔ gp_gen (mv_T mv cn) x) ∧ ∀ q, ¬ cn_tag (T q) → f1 q = f q) (hm_B g sz L) (hm_A sz L)) 0 0 (hm_A sz L) := by
  refine hm_ofW (by decide) (Nat.le_of_ble_eq_true rfl) ?_
  intro p e s m below meth c X hr hlk hnm hK hsz hh ls hl
  have hl : lv_has ls 4 [(0, .ref ch), (1, .ref mO), (2, .int (nI cn))] := hl
  have nt : ∀ q, T q < 9 ∨ (10 ≤ T q ∧ T q < 100) → ¬ cn_tag (T q) := by
    intro q hq ht
    rcases ht with ht | ⟨i, _, ht⟩
    · omega
    · have := lk_tag_lt ht; omega
  have loop2 : ∀ (t c0 : Nat) (f1 : Nat → va_E) (gn1 : Nat → Nat) (G1 : Nat → Nat → Nat → Nat) (pr1 : Nat → Nat → Nat) (sn1 : Nat → Nat) (sp1 : Nat → Nat → Nat) (ix1 : Nat → Nat → Option Nat) (wb1 : Nat → Nat → Nat → Nat) (y1 : Nat → Nat) (H : Heap) (locs : List Loc) (ls : Array Slot),
      cn + 1 ≤ c0 + t → c0 ≤ cn → cn_St g L T ad n ch lO wk zL f1 gn1 G1 pr1 sn1 sp1 ix1 wb1 y1 0 → gn1 0 ≤ c0 → (∀ x, ch_G (cn_gs n gn1 G1 0) x ↔ gp_gen (mv_T mv c0) x) → (∀ q, ¬ cn_tag (T q) → f1 q = f q) →
      hl_H g (hm_A sz L) s.heap L f1 H locs → lv_has ls 4 [(3, .int (nI c0)), (0, .ref ch), (1, .ref mO), (2, .int (nI cn))] →
      W p l e { frames := 4, cells := 0, slots := 0, locals := 170 } s m #[.ref ch, .ref mO, .int (nI cn)] below meth c H locs 0 0 (MQ below (va_Qv (fun u => ∃ (f1 : Nat → va_E) (gn1 : Nat → Nat) (G1 : Nat → Nat → Nat → Nat) (pr1 : Nat → Nat → Nat) (sn1 : Nat → Nat) (sp1 : Nat → Nat → Nat) (ix1 : Nat → Nat → Option Nat) (wb1 : Nat → Nat → Nat → Nat) (y1 : Nat → Nat), u = (L, f1) ∧ cn_St g L T ad n ch lO wk zL f1 gn1 G1 pr1 sn1 sp1 ix1 wb1 y1 0 ∧ (∀ x, ch_G (cn_gs n gn1 G1 0) x ↔ gp_gen (mv_T mv cn) x) ∧ ∀ q, ¬ cn_tag (T q) → f1 q = f q) (hm_B g sz L) (hm_A sz L)) #[.ref ch, .ref mO, .int (nI cn)] s 0 0 (hm_A sz L)) (F0 m 27 ls []) := by
    intro t
    induction t with
    | zero => intros; omega
    | succ t ih =>
      intro c0 f1 gn1 G1 pr1 sn1 sp1 ix1 wb1 y1 H locs ls hk hc0 hSt hg0 hgr hfr hh hl
      refine lv_iload_n X.1 X.2.1 d_H_build_27 rfl (lv_at hl 0 rfl) ?_
      refine lv_iload_n X.1 X.2.1 d_H_build_28 rfl (lv_at hl 3 rfl) ?_
      refine hn_ige (tgt := 69) X (by omega) (by omega) d_H_build_29 (by decide) (fun hc => ?_) (fun hc => ?_)
      · have e0 : c0 = cn := by omega
        subst e0
        exact hm_vret X hr hlk hh ⟨f1, gn1, G1, pr1, sn1, sp1, ix1, wb1, y1, rfl, hSt, hgr, hfr⟩ (Nat.le_of_ble_eq_true rfl) (Nat.le_of_ble_eq_true rfl) d_H_build_69
      · have hlt : c0 < cn := hc
        obtain ⟨hM, hRL, hRf⟩ := hrows c0 hlt
        have hTc := hTr c0 hlt
        have hσ := hmv c0 hlt
        have hRf1 : f1 (mR c0) = hl_nat g n (mv c0) := (hfr _ (nt _ (by omega))).trans hRf
        have hfm1 : f1 mO = hl_grd g 10 zM := (hfr _ (nt _ (by omega))).trans hfm
        obtain ⟨hC1, hW1, hI1⟩ := hSt
        have hok := hI1.1
        have hC10 := hC1
        obtain ⟨⟨a1, a2, a3⟩, ⟨b1, b2, b3⟩, ⟨c1, c2, c3⟩, hlks⟩ := hC1
        have hsg0 := ch_sg hok (Nat.zero_le n)
        refine lv_aload_n X.1 X.2.1 d_H_build_32 rfl (lv_at hl 1 rfl) ?_
        refine lv_aload_n X.1 X.2.1 d_H_build_33 rfl (lv_at hl 2 rfl) ?_
        refine lv_iload_n X.1 X.2.1 d_H_build_34 rfl (lv_at hl 0 rfl) ?_
        refine hl_aaldG X hK hh hmO hfm1 (by omega) (by omega) hM d_H_build_35 ?_
        refine hl_calli hh (hl_runV (k := 1) X hK hh (c_H_failingPlace l g _ L f1 T ad n ch lO wk zL gn1 G1 pr1 sn1 sp1 ix1 wb1 y1 hn hC10 hW1 hok (mR c0) (mv c0) hRL hRf1 (hl_ne (T := T) (by omega)) hσ) wc_H_failingPlace w_160 w_6 wi_H_failingPlace ws_H_failingPlace (by decide +kernel) rfl rfl ⟨Nat.le_of_ble_eq_true rfl, Nat.le_of_ble_eq_true rfl⟩ a1 a2 rfl rfl rfl rfl (Nat.le_of_ble_eq_true rfl) hl.1 d_H_build_36 ⟨Nat.le_of_ble_eq_true rfl, Nat.le_of_ble_eq_true rfl⟩) (fun r u H locs hp hh => ?_)
        obtain ⟨j, x, hjn, rfl, hx, rfl, hfix, hstop⟩ := hp
        obtain ⟨x1, hx1G, hxi⟩ := hsg0.2.2 x hx
        have hback : x1 ∘ (x ∘ mv c0) = mv c0 := by
          funext p
          exact hxi.2 _
        have hC2 := cn_work hn hC10 (x ∘ mv c0)
        obtain ⟨⟨_, d2, _⟩, ⟨_, e2, _⟩, ⟨_, g2, _⟩, hl2⟩ := id hC2
        have hfr2 : ∀ q, ¬ cn_tag (T q) → va_up f1 wk (hl_nat g n (x ∘ mv c0)) q = f q := by
          intro q hq
          rw [va_up_ne _ _ (hl_ne (T := T) (by rw [c3]; exact fun e0 => hq (Or.inl e0)))]
          exact hfr q hq
        obtain ⟨z5, t5, l5⟩ := hl2 0 hn0
        refine lv_aload_n X.1 X.2.1 d_H_build_39 rfl (lv_at hl 1 rfl) ?_
        refine hl_get X hK hh (ref := "CycleGroups$Chain") i_H (ci := 1) rfl 0 (by decide) w_142 rfl a1 d2 rfl d_H_build_40 ?_
        refine hn_ige (tgt := 63) X (by omega) (by omega) d_H_build_43 (by decide) (fun hc => ?_) (fun hc => ?_)
        · have e0 : j = n := by omega
          subst e0
          have hin : ch_G (cn_gs j gn1 G1 0) (mv c0) := by
            have hxid : x ∘ mv c0 = id := by
              funext p
              by_cases hp2 : p < j
              · exact hfix p hp2
              · have h1 : mv c0 p = p := hσ.2 p (fun hm => hp2 (ch_D_mem.1 hm).2)
                have h2 := (ch_in_sym hok (Nat.zero_le j) x hx).2 p (fun hm => hp2 (ch_D_mem.1 hm).2)
                show x (mv c0 p) = p
                rw [h1, h2]
            rw [hxid] at hback
            rw [← hback]
            exact hx1G
          refine lv_iinc (v := nI (c0 + 1)) (lv' := [(3, .int (nI (c0 + 1))), (0, .ref ch), (1, .ref mO), (2, .int (nI cn))]) X.1 X.2.1 d_H_build_63 hl (k := 0) rfl (hn_inc _) (by decide) rfl (fun ls hl => ?_)
          refine lv_goto (tgt := 27) X.1 X.2.1 d_H_build_66 (by decide) ?_
          refine ih (c0 + 1) _ gn1 G1 pr1 sn1 sp1 ix1 wb1 _ H locs ls (by omega) (by omega) ⟨hC2, hW1, hI1⟩ (by omega) (fun z => ?_) hfr2 hh (lv_sub hl [0, 1, 2, 3] rfl)
          rw [hgr z]
          constructor
          · exact gp_gen_mono (fun h ⟨i, hi, e⟩ => ⟨i, by omega, e⟩) z
          · refine gp_gen_sub (fun h ⟨i, hi, e⟩ => ?_) z
            by_cases ei : i = c0
            · rw [e, ei]; exact (hgr _).1 hin
            · exact gp_gen_mem ⟨i, by omega, e⟩
        · have hjlt : j < n := hc
          have hrS : gp_sym (ch_D n 0) (x ∘ mv c0) := (gp_sym_sg _).2.1 _ _ (ch_in_sym hok (Nat.zero_le n) x hx) hσ
          have hnr : ¬ ch_G (cn_gs n gn1 G1 0) (x ∘ mv c0) := by
            intro hin
            have huin : ch_G (cn_gs n gn1 G1 0) (mv c0) := by
              rw [← hback]; exact gp_gen_comp hx1G hin
            exact ch_fails hok (fun i h1 h2 => hI1.2.1 i h1 h2) (Nat.zero_le j) hjlt hx (fun p _ hp => hfix p hp) (hstop hjlt) ⟨_, huin, fun _ _ _ => rfl⟩
          have hI2 := ch_add hI1 hn0 hrS hnr (fun i hi => by omega)
          rw [cn_gs_len hn0] at hI2
          have hgm : gn1 0 < lk_most n 0 := by
            by_cases h24 : n < 24
            · have hmost := ch_most hI2 hn hn0 (Or.inr h24)
              rw [va_up_self, List.length_append, cn_gs_len hn0] at hmost
              exact hmost
            · unfold lk_most; omega
          rw [← cn_gs_add hn0] at hI2
          refine lv_aload_n X.1 X.2.1 d_H_build_46 rfl (lv_at hl 1 rfl) ?_
          refine hl_get X hK hh (ref := "CycleGroups$Chain") i_H (ci := 1) rfl 1 (by decide) w_143 rfl a1 d2 rfl d_H_build_47 ?_
          refine lv_iconst (v := nI 0) X.1 X.2.1 d_H_build_50 (by decide) ?_
          refine hl_aaldL X hK hh b1 e2 (by omega) (by omega) z5 d_H_build_51 ?_
          refine lv_aload_n X.1 X.2.1 d_H_build_52 rfl (lv_at hl 1 rfl) ?_
          refine hl_get X hK hh (ref := "CycleGroups$Chain") i_H (ci := 1) rfl 2 (by decide) w_144 rfl a1 d2 rfl d_H_build_53 ?_
          refine hl_callv hh (hl_runV (k := 1) X hK hh (c_K_addGenerator l g _ L _ T ad n 0 (gn1 0) (G1 0) (pr1 0) (sn1 0) (sp1 0) (ix1 0) (wb1 0) l5 hn t5 hgm wk _ c1 g2 c3) wc_K_addGenerator w_175 w_7 wi_K_addGenerator ws_K_addGenerator (by decide +kernel) rfl rfl ⟨Nat.le_of_ble_eq_true rfl, Nat.le_of_ble_eq_true rfl⟩ l5.1.1 l5.1.2 rfl rfl rfl rfl (Nat.le_of_ble_eq_true rfl) hl.1 d_H_build_56 ⟨Nat.le_of_ble_eq_true rfl, Nat.le_of_ble_eq_true rfl⟩) (fun u H locs hp hh => ?_)
          obtain ⟨f3, rfl, hP3, hfr3⟩ := hp
          have hC3 := cn_link hn hC2 hn0 hP3 hfr3
          have hW3 := cn_W_link hW1 (lk_W_add (hW1 0 hn0) hgm hrS)
          simp only [hr_id] at hC3 hW3
          refine lv_aload_n X.1 X.2.1 d_H_build_59 rfl (lv_at hl 1 rfl) ?_
          refine hl_callv hh (hl_runV (k := 0) X hK hh (c_H_complete l g _ L f3 T ad n ch lO wk zL _ _ _ sn1 sp1 ix1 wb1 _ hn0 hn ⟨hC3, hW3, hI2⟩) wc_H_complete w_180 w_6 wi_H_complete ws_H_complete (by decide +kernel) rfl rfl ⟨Nat.le_of_ble_eq_true rfl, Nat.le_of_ble_eq_true rfl⟩ a1 hC3.1.2.1 rfl rfl rfl rfl (Nat.le_of_ble_eq_true rfl) hl.1 d_H_build_60 ⟨Nat.le_of_ble_eq_true rfl, Nat.le_of_ble_eq_true rfl⟩) (fun u H locs hp hh => ?_)
          obtain ⟨f4, gn4, G4, pr4, sn4, sp4, ix4, wb4, y4, rfl, hSt4, hgs4, hfr4⟩ := hp
          refine lv_iinc (v := nI (c0 + 1)) (lv' := [(3, .int (nI (c0 + 1))), (0, .ref ch), (1, .ref mO), (2, .int (nI cn))]) X.1 X.2.1 d_H_build_63 hl (k := 0) rfl (hn_inc _) (by decide) rfl (fun ls hl => ?_)
          refine lv_goto (tgt := 27) X.1 X.2.1 d_H_build_66 (by decide) ?_
          have hg4 : gn4 0 ≤ c0 + 1 := by
            have h1 := congrArg List.length hgs4
            rw [cn_gs_len hn0, cn_gs_len hn0, va_up_self] at h1
            omega
          refine ih (c0 + 1) f4 gn4 G4 pr4 sn4 sp4 ix4 wb4 y4 H locs ls (by omega) (by omega) hSt4 hg4 (fun z => ?_) (fun q hq => (hfr4 q hq).trans ((hfr3 q (fun ht => hq (Or.inr ⟨0, by decide, ht⟩))).trans (hfr2 q hq))) hh (lv_sub hl [0, 1, 2, 3] rfl)
          rw [hgs4, cn_gs_add hn0, va_up_self]
          constructor
          · refine gp_gen_sub (fun h hm => ?_) z
            have old : ∀ w, ch_G (cn_gs n gn1 G1 0) w → gp_gen (mv_T mv (c0 + 1)) w := fun w hw => gp_gen_mono (fun h ⟨i, hi, e⟩ => ⟨i, by omega, e⟩) w ((hgr w).1 hw)
            rcases List.mem_append.1 hm with hm | hm
            · exact old h (gp_gen_mem hm)
            · rw [List.mem_singleton.1 hm]
              exact gp_gen_comp (old x hx) (gp_gen_mem ⟨c0, by omega, rfl⟩)
          · have new : ∀ w, ch_G (cn_gs n gn1 G1 0) w → gp_gen (fun h => h ∈ cn_gs n gn1 G1 0 ++ [x ∘ mv c0]) w := fun w hw => gp_gen_mono (fun h hm => List.mem_append_left _ hm) w hw
            refine gp_gen_sub (fun h ⟨i, hi, e⟩ => ?_) z
            by_cases ei : i = c0
            · rw [e, ei]
              have h1 : gp_gen (fun h => h ∈ cn_gs n gn1 G1 0 ++ [x ∘ mv c0]) (x1 ∘ (x ∘ mv c0)) := gp_gen_comp (new x1 hx1G) (gp_gen_mem (List.mem_append_right _ (List.mem_singleton.2 rfl)))
              rw [hback] at h1
              exact h1
            · exact new h ((hgr h).2 (gp_gen_mem ⟨i, by omega, e⟩))
  have loop1 : ∀ (t i : Nat) (f1 : Nat → va_E) (gn1 : Nat → Nat) (sn1 : Nat → Nat) (ix1 : Nat → Nat → Option Nat) (H : Heap) (locs : List Loc) (ls : Array Slot),
      n + 1 ≤ i + t → i ≤ n → cn_P g L f1 T ad n ch lO wk zL gn1 G pr sn1 sp ix1 wb y → cn_W n gn1 G pr sn1 sp ix1 wb → (∀ k, k < i → gn1 k = 0 ∧ sn1 k = 1) → (∀ q, ¬ cn_tag (T q) → f1 q = f q) →
      hl_H g (hm_A sz L) s.heap L f1 H locs → lv_has ls 4 [(3, .int (nI i)), (0, .ref ch), (1, .ref mO), (2, .int (nI cn))] →
      W p l e { frames := 4, cells := 0, slots := 0, locals := 170 } s m #[.ref ch, .ref mO, .int (nI cn)] below meth c H locs 0 0 (MQ below (va_Qv (fun u => ∃ (f1 : Nat → va_E) (gn1 : Nat → Nat) (G1 : Nat → Nat → Nat → Nat) (pr1 : Nat → Nat → Nat) (sn1 : Nat → Nat) (sp1 : Nat → Nat → Nat) (ix1 : Nat → Nat → Option Nat) (wb1 : Nat → Nat → Nat → Nat) (y1 : Nat → Nat), u = (L, f1) ∧ cn_St g L T ad n ch lO wk zL f1 gn1 G1 pr1 sn1 sp1 ix1 wb1 y1 0 ∧ (∀ x, ch_G (cn_gs n gn1 G1 0) x ↔ gp_gen (mv_T mv cn) x) ∧ ∀ q, ¬ cn_tag (T q) → f1 q = f q) (hm_B g sz L) (hm_A sz L)) #[.ref ch, .ref mO, .int (nI cn)] s 0 0 (hm_A sz L)) (F0 m 2 ls []) := by
    intro t
    induction t with
    | zero => intros; omega
    | succ t ih =>
      intro i f1 gn1 sn1 ix1 H locs ls hk hin hC1 hW1 hcl hfr hh hl
      have hC10 := hC1
      obtain ⟨⟨a1, a2, a3⟩, ⟨b1, b2, b3⟩, ⟨c1, c2, c3⟩, hlks⟩ := hC1
      refine lv_iload_n X.1 X.2.1 d_H_build_2 rfl (lv_at hl 0 rfl) ?_
      refine lv_aload_n X.1 X.2.1 d_H_build_3 rfl (lv_at hl 1 rfl) ?_
      refine hl_get X hK hh (ref := "CycleGroups$Chain") i_H (ci := 1) rfl 0 (by decide) w_142 rfl a1 a2 rfl d_H_build_4 ?_
      refine hn_ige (tgt := 25) X (by omega) (by omega) d_H_build_7 (by decide) (fun hc => ?_) (fun hc => ?_)
      · have e0 : i = n := by omega
        subst e0
        have hI : ch_inv i (cn_gs i gn1 G) pr sn1 sp wb 0 := ch_empty (fun k hk => by
          unfold cn_gs
          by_cases h : k < i
          · rw [if_pos h, (hcl k h).1]; rfl
          · rw [if_neg h]) (fun k hk => (hcl k hk).2) (fun k hk => (hW k hk).2.2.2.2.2.2.1) hid
        refine lv_iconst (v := nI 0) X.1 X.2.1 d_H_build_25 (by decide) ?_
        refine lv_istore_n (lv' := [(3, .int (nI 0)), (0, .ref ch), (1, .ref mO), (2, .int (nI cn))]) X.1 X.2.1 d_H_build_26 rfl hl (by decide) rfl (fun ls hl => ?_)
        refine loop2 (cn + 1) 0 f1 gn1 G pr sn1 sp ix1 wb y H locs ls (by omega) (by omega) ⟨hC10, hW1, hI⟩ (by rw [(hcl 0 hn0).1]; exact Nat.le_refl _) (fun x => ?_) hfr hh hl
        have e1 : cn_gs i gn1 G 0 = [] := by
          unfold cn_gs
          rw [if_pos hn0, (hcl 0 hn0).1]; rfl
        rw [e1]
        constructor
        · exact gp_gen_sub (fun h hm => absurd hm (List.not_mem_nil)) x
        · exact gp_gen_sub (fun h ⟨k, hk, _⟩ => absurd hk (Nat.not_lt_zero _)) x
      · have hlt : i < n := hc
        obtain ⟨z1, t1, l1⟩ := hlks i hlt
        refine lv_aload_n X.1 X.2.1 d_H_build_10 rfl (lv_at hl 1 rfl) ?_
        refine hl_get X hK hh (ref := "CycleGroups$Chain") i_H (ci := 1) rfl 1 (by decide) w_143 rfl a1 a2 rfl d_H_build_11 ?_
        refine lv_iload_n X.1 X.2.1 d_H_build_14 rfl (lv_at hl 0 rfl) ?_
        refine hl_aaldL X hK hh b1 b2 (by omega) (by omega) z1 d_H_build_15 ?_
        refine hl_callv hh (hl_runV (k := 0) X hK hh (c_K_clear l g _ L f1 T ad n i (gn1 i) (G i) (pr i) (sn1 i) (sp i) (ix1 i) (wb i) l1 (hW1 i hlt) t1) wc_K_clear w_156 w_7 wi_K_clear ws_K_clear (by decide +kernel) rfl rfl ⟨Nat.le_of_ble_eq_true rfl, Nat.le_of_ble_eq_true rfl⟩ l1.1.1 l1.1.2 rfl rfl rfl rfl (Nat.le_of_ble_eq_true rfl) hl.1 d_H_build_16 ⟨Nat.le_of_ble_eq_true rfl, Nat.le_of_ble_eq_true rfl⟩) (fun u H locs hp hh => ?_)
        obtain ⟨f2, rfl, hP2, hfr2⟩ := hp
        have hC2 := cn_link hn hC10 hlt hP2 hfr2
        have hW2 := cn_W_link hW1 (lk_W_clear (hW1 i hlt))
        simp only [hr_id] at hC2 hW2
        refine lv_iinc (v := nI (i + 1)) (lv' := [(3, .int (nI (i + 1))), (0, .ref ch), (1, .ref mO), (2, .int (nI cn))]) X.1 X.2.1 d_H_build_19 hl (k := 0) rfl (hn_inc _) (by decide) rfl (fun ls hl => ?_)
        refine lv_goto (tgt := 2) X.1 X.2.1 d_H_build_22 (by decide) ?_
        refine ih (i + 1) f2 _ _ _ H locs ls (by omega) (by omega) hC2 hW2 (fun k hk2 => ?_) (fun q hq => (hfr2 q (fun ht => hq (Or.inr ⟨i, by omega, ht⟩))).trans (hfr q hq)) hh hl
        by_cases e0 : k = i
        · rw [e0, va_up_self, va_up_self]; exact ⟨rfl, rfl⟩
        · rw [va_up_ne _ _ e0, va_up_ne _ _ e0]; exact hcl k (by omega)
  refine lv_iconst (v := nI 0) X.1 X.2.1 d_H_build_0 (by decide) ?_
  refine lv_istore_n (lv' := [(3, .int (nI 0)), (0, .ref ch), (1, .ref mO), (2, .int (nI cn))]) X.1 X.2.1 d_H_build_1 rfl hl (by decide) rfl (fun ls hl => ?_)
  exact loop1 (n + 1) 0 f gn sn ix s.heap [] ls (by omega) (by omega) hC hW (fun k hk => absurd hk (Nat.not_lt_zero _)) (fun q _ => rfl) hh hl
end
end
section
/-! CycleGroups: its small private methods. -/
section
/-- whether an int is one of 0 .. n - 1 -/
def ip (p : Int32) (n : Nat) : Bool := decide (¬ p < 0 ∧ ¬ nI n ≤ p)
theorem ip_neg {p : Int32} {n : Nat} (h : p < 0) : ip p n = false := decide_eq_false (fun h2 => h2.1 h)
theorem ip_big {p : Int32} {n : Nat} (h : nI n ≤ p) : ip p n = false := decide_eq_false (fun h2 => h2.2 h)
theorem ip_in {n j : Nat} (hn : n < 2 ^ 31) (h : j < n) : ip (nI j) n = true := decide_eq_true ⟨nI_pos (by omega), nI_ge h (by omega)⟩
theorem ip_cases (p : Int32) {n : Nat} (hn : n < 2 ^ 31) : ip p n = false ∨ ∃ j : Nat, j < n ∧ p = nI j := by
  rcases pk_ix p hn with h | h | h
  · exact Or.inl (ip_neg h)
  · exact Or.inl (ip_big h)
  · exact Or.inr h

theorem c_C_isPlace (l : Launch) (g : hl_G) (sz : Nat) (L : List Nat) (f : Nat → va_E) (x n : Nat) (v0 v1 v2 v3 v4 v5 v6 v7 v8 : Value) (q : Int32) (hx : x ∈ L) (hfx : f x = .inr (0, [.int (nI n), v1, v2, v3, v4, v5, v6, v7, v8])) (hn : n < 2 ^ 31) :
    Met l y_C_isPlace (hq y_C_isPlace b_C_isPlace 2 (some .boolean)) { frames := 0, cells := 0, slots := 0, locals := 0 } (hm_P g [.ref x, .int q] sz L f) (va_Qi (fun r u => r = hb (ip q n) ∧ u = (L, f)) (hm_B g sz L) (hm_A sz L)) 0 0 (hm_A sz L) := by
  refine hm_ofW (by decide) (Nat.le_of_ble_eq_true rfl) ?_
  intro p e s m below meth c X hr hlk hnm hK hsz hh ls hl
  have hl : lv_has ls 2 [(0, .ref x), (1, .int q)] := hl
  refine lv_iload_n X.1 X.2.1 d_C_isPlace_0 rfl (lv_at hl 1 rfl) ?_
  refine lv_if_lt (tgt := 16) X.1 X.2.1 d_C_isPlace_1 (by decide) (fun hc => ?_) (fun hc => ?_)
  · skip
    refine lv_iconst (v := nI 0) X.1 X.2.1 d_C_isPlace_16 (by decide) ?_
    exact hm_zret X hr hlk hh (Or.inl rfl) ⟨by rw [ip_neg hc]; rfl, rfl⟩ (Nat.le_of_ble_eq_true rfl) (Nat.le_of_ble_eq_true rfl) d_C_isPlace_17
  · rcases pk_ix q hn with h0 | h0 | ⟨j, hj, rfl⟩
    · exact absurd h0 hc
    · skip
      refine lv_iload_n X.1 X.2.1 d_C_isPlace_4 rfl (lv_at hl 1 rfl) ?_
      refine lv_aload_n X.1 X.2.1 d_C_isPlace_5 rfl (lv_at hl 0 rfl) ?_
      refine hl_get X hK hh (ref := "CycleGroups") i_C (ci := 0) rfl 0 (by decide) w_47 rfl hx hfx rfl d_C_isPlace_6 ?_
      refine lv_icmp_ge (tgt := 16) X.1 X.2.1 d_C_isPlace_9 (by decide) (fun hc => ?_) (fun hc => ?_)
      · skip
        refine lv_iconst (v := nI 0) X.1 X.2.1 d_C_isPlace_16 (by decide) ?_
        exact hm_zret X hr hlk hh (Or.inl rfl) ⟨by rw [ip_big h0]; rfl, rfl⟩ (Nat.le_of_ble_eq_true rfl) (Nat.le_of_ble_eq_true rfl) d_C_isPlace_17
      · exact absurd h0 hc
    · skip
      refine lv_iload_n X.1 X.2.1 d_C_isPlace_4 rfl (lv_at hl 1 rfl) ?_
      refine lv_aload_n X.1 X.2.1 d_C_isPlace_5 rfl (lv_at hl 0 rfl) ?_
      refine hl_get X hK hh (ref := "CycleGroups") i_C (ci := 0) rfl 0 (by decide) w_47 rfl hx hfx rfl d_C_isPlace_6 ?_
      refine hn_ige (tgt := 16) X (by omega) (by omega) d_C_isPlace_9 (by decide) (fun hc => ?_) (fun hc => ?_)
      · omega
      · skip
        refine lv_iconst (v := nI 1) X.1 X.2.1 d_C_isPlace_12 (by decide) ?_
        refine lv_goto (tgt := 17) X.1 X.2.1 d_C_isPlace_13 (by decide) ?_
        exact hm_zret X hr hlk hh (Or.inr rfl) ⟨by rw [ip_in hn hj]; rfl, rfl⟩ (Nat.le_of_ble_eq_true rfl) (Nat.le_of_ble_eq_true rfl) d_C_isPlace_17
theorem c_C_isMove (l : Launch) (g : hl_G) (sz : Nat) (L : List Nat) (f : Nat → va_E) (x n : Nat) (v0 v1 v2 v3 v4 v5 v6 v7 v8 : Value) (q : Int32) (hx : x ∈ L) (hfx : f x = .inr (0, [v0, v1, .int (nI n), v3, v4, v5, v6, v7, v8])) (hn : n < 2 ^ 31) :
    Met l y_C_isMove (hq y_C_isMove b_C_isMove 2 (some .boolean)) { frames := 0, cells := 0, slots := 0, locals := 0 } (hm_P g [.ref x, .int q] sz L f) (va_Qi (fun r u => r = hb (ip q n) ∧ u = (L, f)) (hm_B g sz L) (hm_A sz L)) 0 0 (hm_A sz L) := by
  refine hm_ofW (by decide) (Nat.le_of_ble_eq_true rfl) ?_
  intro p e s m below meth c X hr hlk hnm hK hsz hh ls hl
  have hl : lv_has ls 2 [(0, .ref x), (1, .int q)] := hl
  refine lv_iload_n X.1 X.2.1 d_C_isMove_0 rfl (lv_at hl 1 rfl) ?_
  refine lv_if_lt (tgt := 16) X.1 X.2.1 d_C_isMove_1 (by decide) (fun hc => ?_) (fun hc => ?_)
  · skip
    refine lv_iconst (v := nI 0) X.1 X.2.1 d_C_isMove_16 (by decide) ?_
    exact hm_zret X hr hlk hh (Or.inl rfl) ⟨by rw [ip_neg hc]; rfl, rfl⟩ (Nat.le_of_ble_eq_true rfl) (Nat.le_of_ble_eq_true rfl) d_C_isMove_17
  · rcases pk_ix q hn with h0 | h0 | ⟨j, hj, rfl⟩
    · exact absurd h0 hc
    · skip
      refine lv_iload_n X.1 X.2.1 d_C_isMove_4 rfl (lv_at hl 1 rfl) ?_
      refine lv_aload_n X.1 X.2.1 d_C_isMove_5 rfl (lv_at hl 0 rfl) ?_
      refine hl_get X hK hh (ref := "CycleGroups") i_C (ci := 0) rfl 2 (by decide) w_49 rfl hx hfx rfl d_C_isMove_6 ?_
      refine lv_icmp_ge (tgt := 16) X.1 X.2.1 d_C_isMove_9 (by decide) (fun hc => ?_) (fun hc => ?_)
      · skip
        refine lv_iconst (v := nI 0) X.1 X.2.1 d_C_isMove_16 (by decide) ?_
        exact hm_zret X hr hlk hh (Or.inl rfl) ⟨by rw [ip_big h0]; rfl, rfl⟩ (Nat.le_of_ble_eq_true rfl) (Nat.le_of_ble_eq_true rfl) d_C_isMove_17
      · exact absurd h0 hc
    · skip
      refine lv_iload_n X.1 X.2.1 d_C_isMove_4 rfl (lv_at hl 1 rfl) ?_
      refine lv_aload_n X.1 X.2.1 d_C_isMove_5 rfl (lv_at hl 0 rfl) ?_
      refine hl_get X hK hh (ref := "CycleGroups") i_C (ci := 0) rfl 2 (by decide) w_49 rfl hx hfx rfl d_C_isMove_6 ?_
      refine hn_ige (tgt := 16) X (by omega) (by omega) d_C_isMove_9 (by decide) (fun hc => ?_) (fun hc => ?_)
      · omega
      · skip
        refine lv_iconst (v := nI 1) X.1 X.2.1 d_C_isMove_12 (by decide) ?_
        refine lv_goto (tgt := 17) X.1 X.2.1 d_C_isMove_13 (by decide) ?_
        exact hm_zret X hr hlk hh (Or.inr rfl) ⟨by rw [ip_in hn hj]; rfl, rfl⟩ (Nat.le_of_ble_eq_true rfl) (Nat.le_of_ble_eq_true rfl) d_C_isMove_17
theorem c_C_isState (l : Launch) (g : hl_G) (sz : Nat) (L : List Nat) (f : Nat → va_E) (x n : Nat) (v0 v1 v2 v3 v4 v5 v6 v7 v8 : Value) (q : Int32) (hx : x ∈ L) (hfx : f x = .inr (0, [v0, v1, v2, v3, .int (nI n), v5, v6, v7, v8])) (hn : n < 2 ^ 31) :
    Met l y_C_isState (hq y_C_isState b_C_isState 2 (some .boolean)) { frames := 0, cells := 0, slots := 0, locals := 0 } (hm_P g [.ref x, .int q] sz L f) (va_Qi (fun r u => r = hb (ip q n) ∧ u = (L, f)) (hm_B g sz L) (hm_A sz L)) 0 0 (hm_A sz L) := by
  refine hm_ofW (by decide) (Nat.le_of_ble_eq_true rfl) ?_
  intro p e s m below meth c X hr hlk hnm hK hsz hh ls hl
  have hl : lv_has ls 2 [(0, .ref x), (1, .int q)] := hl
  refine lv_iload_n X.1 X.2.1 d_C_isState_0 rfl (lv_at hl 1 rfl) ?_
  refine lv_if_lt (tgt := 16) X.1 X.2.1 d_C_isState_1 (by decide) (fun hc => ?_) (fun hc => ?_)
  · skip
    refine lv_iconst (v := nI 0) X.1 X.2.1 d_C_isState_16 (by decide) ?_
    exact hm_zret X hr hlk hh (Or.inl rfl) ⟨by rw [ip_neg hc]; rfl, rfl⟩ (Nat.le_of_ble_eq_true rfl) (Nat.le_of_ble_eq_true rfl) d_C_isState_17
  · rcases pk_ix q hn with h0 | h0 | ⟨j, hj, rfl⟩
    · exact absurd h0 hc
    · skip
      refine lv_iload_n X.1 X.2.1 d_C_isState_4 rfl (lv_at hl 1 rfl) ?_
      refine lv_aload_n X.1 X.2.1 d_C_isState_5 rfl (lv_at hl 0 rfl) ?_
      refine hl_get X hK hh (ref := "CycleGroups") i_C (ci := 0) rfl 4 (by decide) w_51 rfl hx hfx rfl d_C_isState_6 ?_
      refine lv_icmp_ge (tgt := 16) X.1 X.2.1 d_C_isState_9 (by decide) (fun hc => ?_) (fun hc => ?_)
      · skip
        refine lv_iconst (v := nI 0) X.1 X.2.1 d_C_isState_16 (by decide) ?_
        exact hm_zret X hr hlk hh (Or.inl rfl) ⟨by rw [ip_big h0]; rfl, rfl⟩ (Nat.le_of_ble_eq_true rfl) (Nat.le_of_ble_eq_true rfl) d_C_isState_17
      · exact absurd h0 hc
    · skip
      refine lv_iload_n X.1 X.2.1 d_C_isState_4 rfl (lv_at hl 1 rfl) ?_
      refine lv_aload_n X.1 X.2.1 d_C_isState_5 rfl (lv_at hl 0 rfl) ?_
      refine hl_get X hK hh (ref := "CycleGroups") i_C (ci := 0) rfl 4 (by decide) w_51 rfl hx hfx rfl d_C_isState_6 ?_
      refine hn_ige (tgt := 16) X (by omega) (by omega) d_C_isState_9 (by decide) (fun hc => ?_) (fun hc => ?_)
      · omega
      · skip
        refine lv_iconst (v := nI 1) X.1 X.2.1 d_C_isState_12 (by decide) ?_
        refine lv_goto (tgt := 17) X.1 X.2.1 d_C_isState_13 (by decide) ?_
        exact hm_zret X hr hlk hh (Or.inr rfl) ⟨by rw [ip_in hn hj]; rfl, rfl⟩ (Nat.le_of_ble_eq_true rfl) (Nat.le_of_ble_eq_true rfl) d_C_isState_17

/-- private static void follow(int[] row, int[] next) -/
theorem c_C_follow (l : Launch) (g : hl_G) (sz : Nat) (L : List Nat) (f : Nat → va_E) (a b n : Nat) (z m0 : Nat → Nat) (ha : a ∈ L) (hfa : f a = hl_nat g n z) (hb0 : b ∈ L) (hfb : f b = hl_nat g n m0) (hab : b ≠ a) (hn : n ≤ 24) (hz : ∀ p, p < n → z p < n) :
    Met l y_C_follow (hq y_C_follow b_C_follow 3 none) { frames := 0, cells := 0, slots := 0, locals := 0 } (hm_P g [.ref a, .ref b] sz L f) (va_Qv (fun u => u = (L, va_up f a (hl_nat g n (m0 ∘ z)))) (hm_B g sz L) (hm_A sz L)) 0 0 (hm_A sz L) := by
  refine hm_ofW (by decide) (Nat.le_of_ble_eq_true rfl) ?_
  intro p e s m below meth c X hr hlk hnm hK hsz hh ls hl
  have hl : lv_has ls 3 [(0, .ref a), (1, .ref b)] := hl
  have loop : ∀ (t i : Nat) (y : Nat → Nat) (H : Heap) (locs : List Loc) (ls : Array Slot), n + 1 ≤ i + t → i ≤ n → (∀ p, p < i → y p = m0 (z p)) → (∀ p, i ≤ p → y p = z p) →
      hl_H g (hm_A sz L) s.heap L (va_up f a (hl_nat g n y)) H locs → lv_has ls 3 [(2, .int (nI i)), (0, .ref a), (1, .ref b)] →
      W p l e { frames := 0, cells := 0, slots := 0, locals := 0 } s m #[.ref a, .ref b] below meth c H locs 0 0 (MQ below (va_Qv (fun u => u = (L, va_up f a (hl_nat g n (m0 ∘ z)))) (hm_B g sz L) (hm_A sz L)) #[.ref a, .ref b] s 0 0 (hm_A sz L)) (F0 m 2 ls []) := by
    intro t
    induction t with
    | zero => intros; omega
    | succ t ih =>
      intro i y H locs ls hki hin hy hy2 hh hl
      refine lv_iload_n X.1 X.2.1 d_C_follow_2 rfl (lv_at hl 0 rfl) ?_
      refine lv_aload_n X.1 X.2.1 d_C_follow_3 rfl (lv_at hl 1 rfl) ?_
      refine hl_alenI X hK hh ha (va_up_self ..) d_C_follow_4 ?_
      refine hn_ige (tgt := 22) X (by omega) (by omega) d_C_follow_5 (by decide) (fun hc => ?_) (fun hc => ?_)
      · have hh := hl_norm (w := fun p => nI ((m0 ∘ z) p)) hh (fun p hp => by rw [hy p (by omega)]; rfl)
        exact hm_vret X hr hlk hh rfl (Nat.le_of_ble_eq_true rfl) (Nat.le_of_ble_eq_true rfl) d_C_follow_22
      · have hyi := hy2 i (Nat.le_refl _)
        have hzi := hz i hc
        refine lv_aload_n X.1 X.2.1 d_C_follow_8 rfl (lv_at hl 1 rfl) ?_
        refine lv_iload_n X.1 X.2.1 d_C_follow_9 rfl (lv_at hl 0 rfl) ?_
        refine lv_aload_n X.1 X.2.1 d_C_follow_10 rfl (lv_at hl 2 rfl) ?_
        refine lv_aload_n X.1 X.2.1 d_C_follow_11 rfl (lv_at hl 1 rfl) ?_
        refine lv_iload_n X.1 X.2.1 d_C_follow_12 rfl (lv_at hl 0 rfl) ?_
        refine hl_iald X hK hh ha (va_up_self ..) (by omega) (by omega) d_C_follow_13 ?_
        refine hl_iald X hK hh hb0 ((va_up_ne _ _ hab).trans hfb) (by omega) (by omega) d_C_follow_14 ?_
        refine hl_iastN X hK hh ha (va_up_self ..) (by omega) (by omega) d_C_follow_15 (fun H locs hh => ?_)
        rw [hr_uu] at hh
        refine lv_iinc (v := nI (i + 1)) (lv' := [(2, .int (nI (i + 1))), (0, .ref a), (1, .ref b)]) X.1 X.2.1 d_C_follow_16 hl (k := 0) rfl (hn_inc _) (by decide) rfl (fun ls hl => ?_)
        refine lv_goto (tgt := 2) X.1 X.2.1 d_C_follow_19 (by decide) ?_
        rw [hyi] at hh
        refine ih (i + 1) (va_up y i (m0 (z i))) H locs ls (by omega) (by omega) (fun p hp => ?_) (fun p hp => ?_) hh hl
        · by_cases e0 : p = i
          · rw [e0, va_up_self]
          · rw [va_up_ne _ _ e0]; exact hy p (by omega)
        · rw [va_up_ne _ _ (by omega)]; exact hy2 p (by omega)
  refine lv_iconst (v := nI 0) X.1 X.2.1 d_C_follow_0 (by decide) ?_
  refine lv_istore_n (lv' := [(2, .int (nI 0)), (0, .ref a), (1, .ref b)]) X.1 X.2.1 d_C_follow_1 rfl hl (by decide) rfl (fun ls hl => ?_)
  exact loop (n + 1) 0 z s.heap [] ls (by omega) (by omega) (fun p hp => absurd hp (Nat.not_lt_zero _)) (fun _ _ => rfl) (hl_same hfa hh) hl
end
end
section
/-! Constructors: Decimal, Partition, Link. -/
section
/-- numbers for the rows r 0 .. r (N - 1): b, b + 1 .. ; the others keep theirs -/
def tg_rows (T : Nat → Nat) (r : Nat → Nat) (N b : Nat) : Nat → Nat := fun q => match (List.range N).find? (fun j => decide (r j = q)) with
  | some j => b + j
  | none => T q
theorem tg_rows_in {T : Nat → Nat} {r : Nat → Nat} {N b j : Nat} (hi : ∀ i j : Nat, i < N → j < N → r i = r j → i = j) (hj : j < N) : tg_rows T r N b (r j) = b + j := by
  unfold tg_rows
  cases h : (List.range N).find? (fun i => decide (r i = r j)) with
  | none =>
    have := List.find?_eq_none.1 h j (List.mem_range.2 hj)
    simp at this
  | some i =>
    have h1 := List.find?_some h
    have h2 := List.mem_range.1 (List.mem_of_find?_eq_some h)
    simp at h1
    show b + i = b + j
    rw [hi i j h2 hj h1]
theorem tg_rows_out {T : Nat → Nat} {r : Nat → Nat} {N b q : Nat} (h : ∀ j, j < N → r j ≠ q) : tg_rows T r N b q = T q := by
  unfold tg_rows
  have : (List.range N).find? (fun i => decide (r i = q)) = none := by
    rw [List.find?_eq_none]
    intro i hi
    simpa using h i (List.mem_range.1 hi)
  rw [this]

/-- the pool has grown: what was there is there, and holds the same -/
def hl_ext (L : List Nat) (f : Nat → va_E) (L1 : List Nat) (f1 : Nat → va_E) : Prop := ∀ a, a ∈ L → a ∈ L1 ∧ f1 a = f a
theorem hl_ext_refl {L : List Nat} {f : Nat → va_E} : hl_ext L f L f := fun a h => ⟨h, rfl⟩
theorem hl_ext_trans {L L1 L2 : List Nat} {f f1 f2 : Nat → va_E} (h : hl_ext L f L1 f1) (h2 : hl_ext L1 f1 L2 f2) : hl_ext L f L2 f2 :=
  fun a ha => ⟨(h2 a (h a ha).1).1, ((h2 a (h a ha).1).2).trans (h a ha).2⟩
theorem hl_ext_new {L : List Nat} {f : Nat → va_E} {q : Nat} {x : va_E} (hq : q ∉ L) : hl_ext L f (L ++ [q]) (va_up f q x) :=
  fun a ha => ⟨List.mem_append_left _ ha, va_up_ne _ _ (fun e => hq (e ▸ ha))⟩
theorem hl_ext_mna {L : List Nat} {f : Nat → va_E} {q N : Nat} {r : Nat → Nat} {x y : va_E} (hr : ∀ i, i < N → r i ∉ L) (hq : q ∉ L ++ (List.range N).map r) :
    hl_ext L f ((L ++ (List.range N).map r) ++ [q]) (va_up (vr_up f ((List.range N).map r) x) q y) := by
  intro a ha
  refine ⟨List.mem_append_left _ (List.mem_append_left _ ha), ?_⟩
  have hne : a ≠ q := fun e => hq (by rw [← e]; exact List.mem_append_left _ ha)
  rw [va_up_ne _ _ hne, vr_up_ne]
  intro hm
  obtain ⟨i, hi, e⟩ := List.mem_map.1 hm
  exact hr i (List.mem_range.1 hi) (e ▸ ha)
theorem hl_mna_row {L : List Nat} {f : Nat → va_E} {q N i : Nat} {r : Nat → Nat} {x y : va_E} (hi : i < N) (hq : q ∉ L ++ (List.range N).map r) :
    r i ∈ (L ++ (List.range N).map r) ++ [q] ∧ va_up (vr_up f ((List.range N).map r) x) q y (r i) = x := by
  have hm : r i ∈ (List.range N).map r := List.mem_map.2 ⟨i, List.mem_range.2 hi, rfl⟩
  refine ⟨List.mem_append_left _ (List.mem_append_right _ hm), ?_⟩
  have hne : r i ≠ q := fun e => hq (by rw [← e]; exact List.mem_append_right _ hm)
  rw [va_up_ne _ _ hne, vr_up_in hm]

/-- Decimal() -/
theorem c_D_init (l : Launch) (g : hl_G) (sz : Nat) (L : List Nat) (f : Nat → va_E) (o : Nat) (v0 : Value) (ho : o ∈ L) (hfo : f o = .inr (2, [v0])) :
    Met l y_D_init (hq y_D_init b_D_init 1 none) { frames := 1, cells := 1, slots := 24, locals := 20 } (hm_P g [.ref o] sz L f) (va_Qv (fun u => ∃ q, q ∉ L ∧ u = (L ++ [q], va_up (va_up f q (hl_nat g 24 (fun _ => 0))) o (.inr (2, [.ref q])))) (hm_B g sz L) (hm_A sz L)) 1 24 (hm_A sz L) := by
  refine hm_ofW (by decide) (Nat.le_of_ble_eq_true rfl) ?_
  intro p e s m below meth c X hr hlk hnm hK hsz hh ls hl
  have hl : lv_has ls 1 [(0, .ref o)] := hl
  refine lv_aload_n X.1 X.2.1 d_D_init_0 rfl (lv_at hl 0 rfl) ?_
  refine hl_objI X w_42 hl.1 (Nat.le_of_ble_eq_true rfl) (Nat.le_of_ble_eq_true rfl) d_D_init_1 ?_
  refine lv_aload_n X.1 X.2.1 d_D_init_4 rfl (lv_at hl 0 rfl) ?_
  refine lv_bipush (v := nI 24) X.1 X.2.1 d_D_init_5 (by decide) ?_
  refine hl_newI X hK hh (by decide) (Nat.le_of_ble_eq_true rfl) (Nat.le_of_ble_eq_true rfl) d_D_init_7 (fun q H hq hh => ?_)
  have ho1 : o ∈ L ++ [q] := List.mem_append_left _ ho
  have hfo1 := (va_up_ne f (hl_nat g 24 (fun _ => 0)) (fun e => hq (e ▸ ho) : o ≠ q)).trans hfo
  refine hl_putF X hK hh hnm (ref := "CycleGroups$Decimal") i_D t_D t_D_ok n_D (ci := 2) rfl 0 (by decide) w_43 rfl rfl rfl ho1 hfo1 (by first | rfl | decide) (by first | rfl | decide) (Nat.le_of_ble_eq_true rfl) d_D_init_9 (fun H locs hh => ?_)
  exact hm_vret X hr hlk hh ⟨q, hq, rfl⟩ (Nat.le_of_ble_eq_true rfl) (Nat.le_of_ble_eq_true rfl) d_D_init_12

/-- Partition(int places) -/
theorem c_P_init (l : Launch) (g : hl_G) (sz : Nat) (L : List Nat) (f : Nat → va_E) (o n : Nat) (v0 : Value) (ho : o ∈ L) (hfo : f o = .inr (4, [v0])) (hn : n ≤ 24) :
    Met l y_P_init (hq y_P_init b_P_init 2 none) { frames := 1, cells := 1, slots := 24, locals := 20 } (hm_P g [.ref o, .int (nI n)] sz L f) (va_Qv (fun u => ∃ q, q ∉ L ∧ u = (L ++ [q], va_up (va_up f q (hl_nat g n (fun _ => 0))) o (.inr (4, [.ref q])))) (hm_B g sz L) (hm_A sz L)) 1 24 (hm_A sz L) := by
  refine hm_ofW (by decide) (Nat.le_of_ble_eq_true rfl) ?_
  intro p e s m below meth c X hr hlk hnm hK hsz hh ls hl
  have hl : lv_has ls 2 [(0, .ref o), (1, .int (nI n))] := hl
  refine lv_aload_n X.1 X.2.1 d_P_init_0 rfl (lv_at hl 0 rfl) ?_
  refine hl_objI X w_31 hl.1 (Nat.le_of_ble_eq_true rfl) (Nat.le_of_ble_eq_true rfl) d_P_init_1 ?_
  refine lv_aload_n X.1 X.2.1 d_P_init_4 rfl (lv_at hl 0 rfl) ?_
  refine lv_iload_n X.1 X.2.1 d_P_init_5 rfl (lv_at hl 1 rfl) ?_
  refine hl_newI X hK hh (by omega) (Nat.le_of_ble_eq_true rfl) (by show 0 + n ≤ 24; omega) d_P_init_6 (fun q H hq hh => ?_)
  have ho1 : o ∈ L ++ [q] := List.mem_append_left _ ho
  have hfo1 := (va_up_ne f (hl_nat g n (fun _ => 0)) (fun e => hq (e ▸ ho) : o ≠ q)).trans hfo
  refine hl_putF X hK hh hnm (ref := "CycleGroups$Partition") i_P t_P t_P_ok n_P (ci := 4) rfl 0 (by decide) w_32 rfl rfl rfl ho1 hfo1 (by first | rfl | decide) (by first | rfl | decide) (Nat.le_of_ble_eq_true rfl) d_P_init_8 (fun H locs hh => ?_)
  exact hm_vret X hr hlk hh ⟨q, hq, rfl⟩ (Nat.le_of_ble_eq_true rfl) (by show 0 + n ≤ 24; omega) d_P_init_11
end
section
/-- Link(int place, int places) -/
theorem c_K_init (l : Launch) (g : hl_G) (sz : Nat) (L : List Nat) (f : Nat → va_E) (T : Nat → Nat) (ad : Nat → Nat → Nat → Nat) (n i k : Nat) (hk : k ∈ L) (hfk : f k = .inr (3, [.null, .int 0, .null, .null, .int 0, .null, .null])) (hTk : T k = 100 + 64 * i) (hn : n ≤ 24) (hi : i < n) :
    Met l y_K_init (hq y_K_init b_K_init 5 none) { frames := 1, cells := 65, slots := 1600, locals := 30 } (hm_P g [.ref k, .int (nI i), .int (nI n)] sz L f) (va_Qv (fun u => ∃ (L1 : List Nat) (f1 : Nat → va_E) (T1 : Nat → Nat) (ad1 : Nat → Nat → Nat → Nat) (G : Nat → Nat → Nat) (pr sp : Nat → Nat) (ix : Nat → Option Nat) (wb : Nat → Nat → Nat), u = (L1, f1) ∧ (∀ q, q ∈ L → q ∈ L1 ∧ T1 q = T q) ∧ (∀ q, q ∈ L → q ≠ k → f1 q = f q) ∧ (∀ i1, i1 ≠ i → ∀ k1 j, ad1 k1 i1 j = ad k1 i1 j) ∧ ad1 0 i 0 = k ∧ lk_T T1 ad1 n i ∧ lk_P g L1 f1 ad1 n i 0 G pr 1 sp ix wb ∧ lk_W n i 0 G pr 1 sp ix wb ∧ wb 0 = id) (hm_B g sz L) (hm_A sz L)) 65 1600 (hm_A sz L) := by
  have hmn : (n - i) * 3 / 2 * n ≤ 36 * 24 := Nat.mul_le_mul (by omega) hn
  have hfn : (n - i) * n ≤ 24 * 24 := Nat.mul_le_mul (by omega) hn
  refine hm_ofW (by decide) (Nat.le_of_ble_eq_true rfl) ?_
  intro p e s m below meth c X hr hlk hnm hK hsz hh ls hl
  have hl : lv_has ls 5 [(0, .ref k), (1, .int (nI i)), (2, .int (nI n))] := hl
  have hpk : k ∈ L ∧ f k = .inr (3, [.null, .int 0, .null, .null, .int 0, .null, .null]) := ⟨hk, hfk⟩
  refine lv_aload_n X.1 X.2.1 d_K_init_0 rfl (lv_at hl 0 rfl) ?_
  refine hl_objI X w_114 hl.1 (Nat.le_of_ble_eq_true rfl) (Nat.le_of_ble_eq_true rfl) d_K_init_1 ?_
  refine lv_iload_n X.1 X.2.1 d_K_init_4 rfl (lv_at hl 2 rfl) ?_
  refine lv_iload_n X.1 X.2.1 d_K_init_5 rfl (lv_at hl 1 rfl) ?_
  refine hn_sub X (by omega) d_K_init_6 ?_
  refine lv_istore_n (lv' := [(3, .int (nI (n - i))), (0, .ref k), (1, .int (nI i)), (2, .int (nI n))]) X.1 X.2.1 d_K_init_7 rfl hl (by decide) rfl (fun ls hl => ?_)
  refine lv_iload_n X.1 X.2.1 d_K_init_8 rfl (lv_at hl 0 rfl) ?_
  refine lv_iconst (v := nI 3) X.1 X.2.1 d_K_init_9 (by decide) ?_
  refine hn_mul X d_K_init_10 ?_
  refine lv_iconst (v := nI 2) X.1 X.2.1 d_K_init_11 (by decide) ?_
  refine hn_div X (by omega) (by omega) (by omega) d_K_init_12 ?_
  refine lv_istore (lv' := [(4, .int (nI (((n - i) * 3) / 2))), (3, .int (nI (n - i))), (0, .ref k), (1, .int (nI i)), (2, .int (nI n))]) X.1 X.2.1 d_K_init_13 hl (by decide) rfl (fun ls hl => ?_)
  refine lv_aload_n X.1 X.2.1 d_K_init_15 rfl (lv_at hl 2 rfl) ?_
  refine lv_iload X.1 X.2.1 d_K_init_16 (lv_at hl 0 rfl) ?_
  refine lv_iload_n X.1 X.2.1 d_K_init_18 rfl (lv_at hl 4 rfl) ?_
  refine hl_mna X hK hh (n := (n - i) * 3 / 2) (k := n) (by omega) (by omega) w_115 (by show 0 + (1 + (n - i) * 3 / 2) ≤ 65; omega) (by show 0 + ((n - i) * 3 / 2 + (n - i) * 3 / 2 * n) ≤ 1600; omega) d_K_init_19 (fun q1 r1 H hi1 hr1 hq1 hh => ?_)
  obtain ⟨locs, hlocs⟩ : ∃ x : List Loc, x = [] := ⟨_, rfl⟩
  rw [← hlocs] at hh ⊢
  obtain ⟨L1, hL1⟩ : ∃ x : List Nat, x = (L ++ (List.range ((n - i) * 3 / 2)).map r1) ++ [q1] := ⟨_, rfl⟩
  obtain ⟨f1, hf1⟩ : ∃ x : Nat → va_E, x = va_up (vr_up f ((List.range ((n - i) * 3 / 2)).map r1) (hl_row g n (fun _ => 0))) q1 (hl_grd g ((n - i) * 3 / 2) (fun j0 => if j0 < (n - i) * 3 / 2 then some (r1 j0) else none)) := ⟨_, rfl⟩
  have hh : hl_H g (hm_A sz L) s.heap L1 f1 H locs := by rw [hL1, hf1]; exact hh
  have ne_hpk_oA : k ≠ q1 := fun e0 => hq1 (by rw [← e0]; exact List.mem_append_left _ hpk.1)
  have ne_hpk_rA : ∀ j, j < (n - i) * 3 / 2 → k ≠ r1 j := fun j hj e0 => hr1 j hj (by rw [← e0]; exact hpk.1)
  have E1 : hl_ext L f L1 f1 := by rw [hL1, hf1]; exact hl_ext_mna hr1 hq1
  have hpk1 := (⟨(E1 _ hpk.1).1, (E1 _ hpk.1).2.trans hpk.2⟩ : k ∈ L1 ∧ f1 k = _)
  have oA1 : q1 ∈ L1 ∧ f1 q1 = hl_grd g ((n - i) * 3 / 2) (fun j0 => if j0 < (n - i) * 3 / 2 then some (r1 j0) else none) := ⟨by rw [hL1]; exact List.mem_append_right _ (List.mem_singleton.2 rfl), by rw [hf1, va_up_self]⟩
  have rA1 : ∀ j, j < (n - i) * 3 / 2 → r1 j ∈ L1 ∧ f1 (r1 j) = hl_row g n (fun _ => 0) := fun j hj => by rw [hL1, hf1]; exact hl_mna_row hj hq1
  have ne_rA_oA : ∀ j, j < (n - i) * 3 / 2 → r1 j ≠ q1 := fun j hj e0 => hq1 (by rw [← e0]; exact List.mem_append_right _ (List.mem_map.2 ⟨j, List.mem_range.2 hj, rfl⟩))
  refine hl_putF X hK hh hnm (ref := "CycleGroups$Link") i_K t_K t_K_ok n_K (ci := 3) rfl 0 (by decide) w_120 rfl rfl rfl hpk1.1 hpk1.2 (by first | rfl | decide) (by first | rfl | decide) (Nat.le_of_ble_eq_true rfl) d_K_init_23 (fun H locs hh => ?_)
  obtain ⟨f2, hf2⟩ : ∃ x : Nat → va_E, x = va_up f1 k (.inr (3, [.ref q1, .int 0, .null, .null, .int 0, .null, .null])) := ⟨_, rfl⟩
  have hh : hl_H g (hm_A sz L) s.heap L1 f2 H locs := by rw [hf2]; exact hh
  have oA2 := (⟨oA1.1, (congrFun hf2 q1).trans ((va_up_ne _ _ (Ne.symm ne_hpk_oA)).trans oA1.2)⟩ : q1 ∈ L1 ∧ f2 q1 = _)
  have rA2 := fun j (hj : j < (n - i) * 3 / 2) => (⟨(rA1 j hj).1, (congrFun hf2 (r1 j)).trans ((va_up_ne _ _ (Ne.symm (ne_hpk_rA j hj))).trans (rA1 j hj).2)⟩ : r1 j ∈ L1 ∧ f2 (r1 j) = _)
  have hpk2 : k ∈ L1 ∧ f2 k = .inr (3, [.ref q1, .int 0, .null, .null, .int 0, .null, .null]) := ⟨hpk1.1, by rw [hf2, va_up_self]⟩
  refine lv_aload_n X.1 X.2.1 d_K_init_26 rfl (lv_at hl 2 rfl) ?_
  refine lv_iload X.1 X.2.1 d_K_init_27 (lv_at hl 0 rfl) ?_
  refine hl_newI X hK hh (n := (n - i) * 3 / 2) (by omega) (by show 0 + 1 + (n - i) * 3 / 2 + 1 ≤ 65; omega) (by show 0 + (n - i) * 3 / 2 + (n - i) * 3 / 2 * n + (n - i) * 3 / 2 ≤ 1600; omega) d_K_init_29 (fun q3 H hq3 hh => ?_)
  obtain ⟨L3, hL3⟩ : ∃ x : List Nat, x = L1 ++ [q3] := ⟨_, rfl⟩
  obtain ⟨f3, hf3⟩ : ∃ x : Nat → va_E, x = va_up f2 q3 (hl_nat g ((n - i) * 3 / 2) (fun _ => 0)) := ⟨_, rfl⟩
  have hh : hl_H g (hm_A sz L) s.heap L3 f3 H locs := by rw [hL3, hf3]; exact hh
  have ne_hpk_oB : k ≠ q3 := fun e0 => hq3 (e0 ▸ hpk2.1)
  have ne_oA_oB : q1 ≠ q3 := fun e0 => hq3 (e0 ▸ oA2.1)
  have ne_rA_oB : ∀ j, j < (n - i) * 3 / 2 → r1 j ≠ q3 := fun j hj e0 => hq3 (e0 ▸ (rA2 j hj).1)
  have E3 : hl_ext L1 f2 L3 f3 := by rw [hL3, hf3]; exact hl_ext_new hq3
  have hpk3 := (⟨(E3 _ hpk2.1).1, (E3 _ hpk2.1).2.trans hpk2.2⟩ : k ∈ L3 ∧ f3 k = _)
  have oA3 := (⟨(E3 _ oA2.1).1, (E3 _ oA2.1).2.trans oA2.2⟩ : q1 ∈ L3 ∧ f3 q1 = _)
  have rA3 := fun j (hj : j < (n - i) * 3 / 2) => (⟨(E3 _ (rA2 j hj).1).1, (E3 _ (rA2 j hj).1).2.trans (rA2 j hj).2⟩ : r1 j ∈ L3 ∧ f3 (r1 j) = _)
  have oB3 : q3 ∈ L3 ∧ f3 q3 = hl_nat g ((n - i) * 3 / 2) (fun _ => 0) := ⟨by rw [hL3]; exact List.mem_append_right _ (List.mem_singleton.2 rfl), by rw [hf3, va_up_self]⟩
  refine hl_putF X hK hh hnm (ref := "CycleGroups$Link") i_K t_K t_K_ok n_K (ci := 3) rfl 2 (by decide) w_122 rfl rfl rfl hpk3.1 hpk3.2 (by first | rfl | decide) (by first | rfl | decide) (Nat.le_of_ble_eq_true rfl) d_K_init_31 (fun H locs hh => ?_)
  obtain ⟨f4, hf4⟩ : ∃ x : Nat → va_E, x = va_up f3 k (.inr (3, [.ref q1, .int 0, .ref q3, .null, .int 0, .null, .null])) := ⟨_, rfl⟩
  have hh : hl_H g (hm_A sz L) s.heap L3 f4 H locs := by rw [hf4]; exact hh
  have oA4 := (⟨oA3.1, (congrFun hf4 q1).trans ((va_up_ne _ _ (Ne.symm ne_hpk_oA)).trans oA3.2)⟩ : q1 ∈ L3 ∧ f4 q1 = _)
  have oB4 := (⟨oB3.1, (congrFun hf4 q3).trans ((va_up_ne _ _ (Ne.symm ne_hpk_oB)).trans oB3.2)⟩ : q3 ∈ L3 ∧ f4 q3 = _)
  have rA4 := fun j (hj : j < (n - i) * 3 / 2) => (⟨(rA3 j hj).1, (congrFun hf4 (r1 j)).trans ((va_up_ne _ _ (Ne.symm (ne_hpk_rA j hj))).trans (rA3 j hj).2)⟩ : r1 j ∈ L3 ∧ f4 (r1 j) = _)
  have hpk4 : k ∈ L3 ∧ f4 k = .inr (3, [.ref q1, .int 0, .ref q3, .null, .int 0, .null, .null]) := ⟨hpk3.1, by rw [hf4, va_up_self]⟩
  refine lv_aload_n X.1 X.2.1 d_K_init_34 rfl (lv_at hl 2 rfl) ?_
  refine lv_iload_n X.1 X.2.1 d_K_init_35 rfl (lv_at hl 1 rfl) ?_
  refine hl_newI X hK hh (n := n - i) (by omega) (by show 0 + 1 + (n - i) * 3 / 2 + 1 + 1 ≤ 65; omega) (by show 0 + (n - i) * 3 / 2 + (n - i) * 3 / 2 * n + (n - i) * 3 / 2 + (n - i) ≤ 1600; omega) d_K_init_36 (fun q4 H hq4 hh => ?_)
  obtain ⟨L5, hL5⟩ : ∃ x : List Nat, x = L3 ++ [q4] := ⟨_, rfl⟩
  obtain ⟨f5, hf5⟩ : ∃ x : Nat → va_E, x = va_up f4 q4 (hl_nat g (n - i) (fun _ => 0)) := ⟨_, rfl⟩
  have hh : hl_H g (hm_A sz L) s.heap L5 f5 H locs := by rw [hL5, hf5]; exact hh
  have ne_hpk_oC : k ≠ q4 := fun e0 => hq4 (e0 ▸ hpk4.1)
  have ne_oA_oC : q1 ≠ q4 := fun e0 => hq4 (e0 ▸ oA4.1)
  have ne_oB_oC : q3 ≠ q4 := fun e0 => hq4 (e0 ▸ oB4.1)
  have ne_rA_oC : ∀ j, j < (n - i) * 3 / 2 → r1 j ≠ q4 := fun j hj e0 => hq4 (e0 ▸ (rA4 j hj).1)
  have E5 : hl_ext L3 f4 L5 f5 := by rw [hL5, hf5]; exact hl_ext_new hq4
  have hpk5 := (⟨(E5 _ hpk4.1).1, (E5 _ hpk4.1).2.trans hpk4.2⟩ : k ∈ L5 ∧ f5 k = _)
  have oA5 := (⟨(E5 _ oA4.1).1, (E5 _ oA4.1).2.trans oA4.2⟩ : q1 ∈ L5 ∧ f5 q1 = _)
  have oB5 := (⟨(E5 _ oB4.1).1, (E5 _ oB4.1).2.trans oB4.2⟩ : q3 ∈ L5 ∧ f5 q3 = _)
  have rA5 := fun j (hj : j < (n - i) * 3 / 2) => (⟨(E5 _ (rA4 j hj).1).1, (E5 _ (rA4 j hj).1).2.trans (rA4 j hj).2⟩ : r1 j ∈ L5 ∧ f5 (r1 j) = _)
  have oC5 : q4 ∈ L5 ∧ f5 q4 = hl_nat g (n - i) (fun _ => 0) := ⟨by rw [hL5]; exact List.mem_append_right _ (List.mem_singleton.2 rfl), by rw [hf5, va_up_self]⟩
  refine hl_putF X hK hh hnm (ref := "CycleGroups$Link") i_K t_K t_K_ok n_K (ci := 3) rfl 3 (by decide) w_123 rfl rfl rfl hpk5.1 hpk5.2 (by first | rfl | decide) (by first | rfl | decide) (Nat.le_of_ble_eq_true rfl) d_K_init_38 (fun H locs hh => ?_)
  obtain ⟨f6, hf6⟩ : ∃ x : Nat → va_E, x = va_up f5 k (.inr (3, [.ref q1, .int 0, .ref q3, .ref q4, .int 0, .null, .null])) := ⟨_, rfl⟩
  have hh : hl_H g (hm_A sz L) s.heap L5 f6 H locs := by rw [hf6]; exact hh
  have oA6 := (⟨oA5.1, (congrFun hf6 q1).trans ((va_up_ne _ _ (Ne.symm ne_hpk_oA)).trans oA5.2)⟩ : q1 ∈ L5 ∧ f6 q1 = _)
  have oB6 := (⟨oB5.1, (congrFun hf6 q3).trans ((va_up_ne _ _ (Ne.symm ne_hpk_oB)).trans oB5.2)⟩ : q3 ∈ L5 ∧ f6 q3 = _)
  have oC6 := (⟨oC5.1, (congrFun hf6 q4).trans ((va_up_ne _ _ (Ne.symm ne_hpk_oC)).trans oC5.2)⟩ : q4 ∈ L5 ∧ f6 q4 = _)
  have rA6 := fun j (hj : j < (n - i) * 3 / 2) => (⟨(rA5 j hj).1, (congrFun hf6 (r1 j)).trans ((va_up_ne _ _ (Ne.symm (ne_hpk_rA j hj))).trans (rA5 j hj).2)⟩ : r1 j ∈ L5 ∧ f6 (r1 j) = _)
  have hpk6 : k ∈ L5 ∧ f6 k = .inr (3, [.ref q1, .int 0, .ref q3, .ref q4, .int 0, .null, .null]) := ⟨hpk5.1, by rw [hf6, va_up_self]⟩
  refine lv_aload_n X.1 X.2.1 d_K_init_41 rfl (lv_at hl 2 rfl) ?_
  refine lv_iload_n X.1 X.2.1 d_K_init_42 rfl (lv_at hl 4 rfl) ?_
  refine hl_newI X hK hh (n := n) (by omega) (by show 0 + 1 + (n - i) * 3 / 2 + 1 + 1 + 1 ≤ 65; omega) (by show 0 + (n - i) * 3 / 2 + (n - i) * 3 / 2 * n + (n - i) * 3 / 2 + (n - i) + n ≤ 1600; omega) d_K_init_43 (fun q5 H hq5 hh => ?_)
  obtain ⟨L7, hL7⟩ : ∃ x : List Nat, x = L5 ++ [q5] := ⟨_, rfl⟩
  obtain ⟨f7, hf7⟩ : ∃ x : Nat → va_E, x = va_up f6 q5 (hl_row g n (fun _ => 0)) := ⟨_, rfl⟩
  have hh : hl_H g (hm_A sz L) s.heap L7 f7 H locs := by rw [hL7, hf7]; exact hh
  have ne_hpk_oD : k ≠ q5 := fun e0 => hq5 (e0 ▸ hpk6.1)
  have ne_oA_oD : q1 ≠ q5 := fun e0 => hq5 (e0 ▸ oA6.1)
  have ne_oB_oD : q3 ≠ q5 := fun e0 => hq5 (e0 ▸ oB6.1)
  have ne_oC_oD : q4 ≠ q5 := fun e0 => hq5 (e0 ▸ oC6.1)
  have ne_rA_oD : ∀ j, j < (n - i) * 3 / 2 → r1 j ≠ q5 := fun j hj e0 => hq5 (e0 ▸ (rA6 j hj).1)
  have E7 : hl_ext L5 f6 L7 f7 := by rw [hL7, hf7]; exact hl_ext_new hq5
  have hpk7 := (⟨(E7 _ hpk6.1).1, (E7 _ hpk6.1).2.trans hpk6.2⟩ : k ∈ L7 ∧ f7 k = _)
  have oA7 := (⟨(E7 _ oA6.1).1, (E7 _ oA6.1).2.trans oA6.2⟩ : q1 ∈ L7 ∧ f7 q1 = _)
  have oB7 := (⟨(E7 _ oB6.1).1, (E7 _ oB6.1).2.trans oB6.2⟩ : q3 ∈ L7 ∧ f7 q3 = _)
  have oC7 := (⟨(E7 _ oC6.1).1, (E7 _ oC6.1).2.trans oC6.2⟩ : q4 ∈ L7 ∧ f7 q4 = _)
  have rA7 := fun j (hj : j < (n - i) * 3 / 2) => (⟨(E7 _ (rA6 j hj).1).1, (E7 _ (rA6 j hj).1).2.trans (rA6 j hj).2⟩ : r1 j ∈ L7 ∧ f7 (r1 j) = _)
  have oD7 : q5 ∈ L7 ∧ f7 q5 = hl_row g n (fun _ => 0) := ⟨by rw [hL7]; exact List.mem_append_right _ (List.mem_singleton.2 rfl), by rw [hf7, va_up_self]⟩
  refine hl_putF X hK hh hnm (ref := "CycleGroups$Link") i_K t_K t_K_ok n_K (ci := 3) rfl 5 (by decide) w_125 rfl rfl rfl hpk7.1 hpk7.2 (by first | rfl | decide) (by first | rfl | decide) (Nat.le_of_ble_eq_true rfl) d_K_init_45 (fun H locs hh => ?_)
  obtain ⟨f8, hf8⟩ : ∃ x : Nat → va_E, x = va_up f7 k (.inr (3, [.ref q1, .int 0, .ref q3, .ref q4, .int 0, .ref q5, .null])) := ⟨_, rfl⟩
  have hh : hl_H g (hm_A sz L) s.heap L7 f8 H locs := by rw [hf8]; exact hh
  have oA8 := (⟨oA7.1, (congrFun hf8 q1).trans ((va_up_ne _ _ (Ne.symm ne_hpk_oA)).trans oA7.2)⟩ : q1 ∈ L7 ∧ f8 q1 = _)
  have oB8 := (⟨oB7.1, (congrFun hf8 q3).trans ((va_up_ne _ _ (Ne.symm ne_hpk_oB)).trans oB7.2)⟩ : q3 ∈ L7 ∧ f8 q3 = _)
  have oC8 := (⟨oC7.1, (congrFun hf8 q4).trans ((va_up_ne _ _ (Ne.symm ne_hpk_oC)).trans oC7.2)⟩ : q4 ∈ L7 ∧ f8 q4 = _)
  have oD8 := (⟨oD7.1, (congrFun hf8 q5).trans ((va_up_ne _ _ (Ne.symm ne_hpk_oD)).trans oD7.2)⟩ : q5 ∈ L7 ∧ f8 q5 = _)
  have rA8 := fun j (hj : j < (n - i) * 3 / 2) => (⟨(rA7 j hj).1, (congrFun hf8 (r1 j)).trans ((va_up_ne _ _ (Ne.symm (ne_hpk_rA j hj))).trans (rA7 j hj).2)⟩ : r1 j ∈ L7 ∧ f8 (r1 j) = _)
  have hpk8 : k ∈ L7 ∧ f8 k = .inr (3, [.ref q1, .int 0, .ref q3, .ref q4, .int 0, .ref q5, .null]) := ⟨hpk7.1, by rw [hf8, va_up_self]⟩
  refine lv_aload_n X.1 X.2.1 d_K_init_48 rfl (lv_at hl 2 rfl) ?_
  refine lv_iload_n X.1 X.2.1 d_K_init_49 rfl (lv_at hl 1 rfl) ?_
  refine lv_iload_n X.1 X.2.1 d_K_init_50 rfl (lv_at hl 4 rfl) ?_
  refine hl_mna X hK hh (n := n - i) (k := n) (by omega) (by omega) w_115 (by show 0 + 1 + (n - i) * 3 / 2 + 1 + 1 + 1 + (1 + (n - i)) ≤ 65; omega) (by show 0 + (n - i) * 3 / 2 + (n - i) * 3 / 2 * n + (n - i) * 3 / 2 + (n - i) + n + ((n - i) + (n - i) * n) ≤ 1600; omega) d_K_init_51 (fun q6 r7 H hi7 hr7 hq6 hh => ?_)
  obtain ⟨L9, hL9⟩ : ∃ x : List Nat, x = (L7 ++ (List.range (n - i)).map r7) ++ [q6] := ⟨_, rfl⟩
  obtain ⟨f9, hf9⟩ : ∃ x : Nat → va_E, x = va_up (vr_up f8 ((List.range (n - i)).map r7) (hl_row g n (fun _ => 0))) q6 (hl_grd g (n - i) (fun j0 => if j0 < n - i then some (r7 j0) else none)) := ⟨_, rfl⟩
  have hh : hl_H g (hm_A sz L) s.heap L9 f9 H locs := by rw [hL9, hf9]; exact hh
  have ne_hpk_oE : k ≠ q6 := fun e0 => hq6 (by rw [← e0]; exact List.mem_append_left _ hpk8.1)
  have ne_hpk_rE : ∀ j, j < n - i → k ≠ r7 j := fun j hj e0 => hr7 j hj (by rw [← e0]; exact hpk8.1)
  have ne_oA_oE : q1 ≠ q6 := fun e0 => hq6 (by rw [← e0]; exact List.mem_append_left _ oA8.1)
  have ne_oA_rE : ∀ j, j < n - i → q1 ≠ r7 j := fun j hj e0 => hr7 j hj (by rw [← e0]; exact oA8.1)
  have ne_oB_oE : q3 ≠ q6 := fun e0 => hq6 (by rw [← e0]; exact List.mem_append_left _ oB8.1)
  have ne_oB_rE : ∀ j, j < n - i → q3 ≠ r7 j := fun j hj e0 => hr7 j hj (by rw [← e0]; exact oB8.1)
  have ne_oC_oE : q4 ≠ q6 := fun e0 => hq6 (by rw [← e0]; exact List.mem_append_left _ oC8.1)
  have ne_oC_rE : ∀ j, j < n - i → q4 ≠ r7 j := fun j hj e0 => hr7 j hj (by rw [← e0]; exact oC8.1)
  have ne_oD_oE : q5 ≠ q6 := fun e0 => hq6 (by rw [← e0]; exact List.mem_append_left _ oD8.1)
  have ne_oD_rE : ∀ j, j < n - i → q5 ≠ r7 j := fun j hj e0 => hr7 j hj (by rw [← e0]; exact oD8.1)
  have ne_rA_oE : ∀ j, j < (n - i) * 3 / 2 → r1 j ≠ q6 := fun j hj e0 => hq6 (by rw [← e0]; exact List.mem_append_left _ (rA8 j hj).1)
  have ne_rA_rE : ∀ j, j < (n - i) * 3 / 2 → ∀ j2, j2 < n - i → r1 j ≠ r7 j2 := fun j hj j2 hj2 e0 => hr7 j2 hj2 (by rw [← e0]; exact (rA8 j hj).1)
  have E9 : hl_ext L7 f8 L9 f9 := by rw [hL9, hf9]; exact hl_ext_mna hr7 hq6
  have hpk9 := (⟨(E9 _ hpk8.1).1, (E9 _ hpk8.1).2.trans hpk8.2⟩ : k ∈ L9 ∧ f9 k = _)
  have oA9 := (⟨(E9 _ oA8.1).1, (E9 _ oA8.1).2.trans oA8.2⟩ : q1 ∈ L9 ∧ f9 q1 = _)
  have oB9 := (⟨(E9 _ oB8.1).1, (E9 _ oB8.1).2.trans oB8.2⟩ : q3 ∈ L9 ∧ f9 q3 = _)
  have oC9 := (⟨(E9 _ oC8.1).1, (E9 _ oC8.1).2.trans oC8.2⟩ : q4 ∈ L9 ∧ f9 q4 = _)
  have oD9 := (⟨(E9 _ oD8.1).1, (E9 _ oD8.1).2.trans oD8.2⟩ : q5 ∈ L9 ∧ f9 q5 = _)
  have rA9 := fun j (hj : j < (n - i) * 3 / 2) => (⟨(E9 _ (rA8 j hj).1).1, (E9 _ (rA8 j hj).1).2.trans (rA8 j hj).2⟩ : r1 j ∈ L9 ∧ f9 (r1 j) = _)
  have oE9 : q6 ∈ L9 ∧ f9 q6 = hl_grd g (n - i) (fun j0 => if j0 < n - i then some (r7 j0) else none) := ⟨by rw [hL9]; exact List.mem_append_right _ (List.mem_singleton.2 rfl), by rw [hf9, va_up_self]⟩
  have rE9 : ∀ j, j < n - i → r7 j ∈ L9 ∧ f9 (r7 j) = hl_row g n (fun _ => 0) := fun j hj => by rw [hL9, hf9]; exact hl_mna_row hj hq6
  have ne_rE_oE : ∀ j, j < n - i → r7 j ≠ q6 := fun j hj e0 => hq6 (by rw [← e0]; exact List.mem_append_right _ (List.mem_map.2 ⟨j, List.mem_range.2 hj, rfl⟩))
  refine hl_putF X hK hh hnm (ref := "CycleGroups$Link") i_K t_K t_K_ok n_K (ci := 3) rfl 6 (by decide) w_126 rfl rfl rfl hpk9.1 hpk9.2 (by first | rfl | decide) (by first | rfl | decide) (Nat.le_of_ble_eq_true rfl) d_K_init_55 (fun H locs hh => ?_)
  obtain ⟨f10, hf10⟩ : ∃ x : Nat → va_E, x = va_up f9 k (.inr (3, [.ref q1, .int 0, .ref q3, .ref q4, .int 0, .ref q5, .ref q6])) := ⟨_, rfl⟩
  have hh : hl_H g (hm_A sz L) s.heap L9 f10 H locs := by rw [hf10]; exact hh
  have oA10 := (⟨oA9.1, (congrFun hf10 q1).trans ((va_up_ne _ _ (Ne.symm ne_hpk_oA)).trans oA9.2)⟩ : q1 ∈ L9 ∧ f10 q1 = _)
  have oB10 := (⟨oB9.1, (congrFun hf10 q3).trans ((va_up_ne _ _ (Ne.symm ne_hpk_oB)).trans oB9.2)⟩ : q3 ∈ L9 ∧ f10 q3 = _)
  have oC10 := (⟨oC9.1, (congrFun hf10 q4).trans ((va_up_ne _ _ (Ne.symm ne_hpk_oC)).trans oC9.2)⟩ : q4 ∈ L9 ∧ f10 q4 = _)
  have oD10 := (⟨oD9.1, (congrFun hf10 q5).trans ((va_up_ne _ _ (Ne.symm ne_hpk_oD)).trans oD9.2)⟩ : q5 ∈ L9 ∧ f10 q5 = _)
  have oE10 := (⟨oE9.1, (congrFun hf10 q6).trans ((va_up_ne _ _ (Ne.symm ne_hpk_oE)).trans oE9.2)⟩ : q6 ∈ L9 ∧ f10 q6 = _)
  have rA10 := fun j (hj : j < (n - i) * 3 / 2) => (⟨(rA9 j hj).1, (congrFun hf10 (r1 j)).trans ((va_up_ne _ _ (Ne.symm (ne_hpk_rA j hj))).trans (rA9 j hj).2)⟩ : r1 j ∈ L9 ∧ f10 (r1 j) = _)
  have rE10 := fun j (hj : j < n - i) => (⟨(rE9 j hj).1, (congrFun hf10 (r7 j)).trans ((va_up_ne _ _ (Ne.symm (ne_hpk_rE j hj))).trans (rE9 j hj).2)⟩ : r7 j ∈ L9 ∧ f10 (r7 j) = _)
  have hpk10 : k ∈ L9 ∧ f10 k = .inr (3, [.ref q1, .int 0, .ref q3, .ref q4, .int 0, .ref q5, .ref q6]) := ⟨hpk9.1, by rw [hf10, va_up_self]⟩
  refine lv_aload_n X.1 X.2.1 d_K_init_58 rfl (lv_at hl 2 rfl) ?_
  refine hl_get X hK hh (ref := "CycleGroups$Link") i_K (ci := 3) rfl 5 (by decide) w_125 rfl hpk10.1 hpk10.2 rfl d_K_init_59 ?_
  refine lv_iconst (v := -1) X.1 X.2.1 d_K_init_62 (by decide) ?_
  refine hl_callv hh (hl_runS (k := 2) X hK hh (c_A_fill l g _ L9 f10 q5 n (-1) _ oD10.1 oD10.2 (by omega)) wc_A_fill w_116 w_8 wi_A_fill (by decide +kernel) rfl rfl ⟨Nat.le_of_ble_eq_true rfl, Nat.le_of_ble_eq_true rfl⟩ rfl rfl (Nat.le_of_ble_eq_true rfl) hl.1 d_K_init_63 ⟨by show 0 + 1 + (n - i) * 3 / 2 + 1 + 1 + 1 + 1 + (n - i) + 0 ≤ 65; omega, by show 0 + (n - i) * 3 / 2 + (n - i) * 3 / 2 * n + (n - i) * 3 / 2 + (n - i) + n + (n - i) + (n - i) * n + 0 ≤ 1600; omega⟩) (fun u H locs hp hh => ?_)
  subst hp
  obtain ⟨f11, hf11⟩ : ∃ x : Nat → va_E, x = va_up f10 q5 (hl_row g n (fun _ => -1)) := ⟨_, rfl⟩
  have hh : hl_H g (hm_A sz L) s.heap L9 f11 H locs := by rw [hf11]; exact hh
  have hpk11 := (⟨hpk10.1, (congrFun hf11 k).trans ((va_up_ne _ _ ne_hpk_oD).trans hpk10.2)⟩ : k ∈ L9 ∧ f11 k = _)
  have oA11 := (⟨oA10.1, (congrFun hf11 q1).trans ((va_up_ne _ _ ne_oA_oD).trans oA10.2)⟩ : q1 ∈ L9 ∧ f11 q1 = _)
  have oB11 := (⟨oB10.1, (congrFun hf11 q3).trans ((va_up_ne _ _ ne_oB_oD).trans oB10.2)⟩ : q3 ∈ L9 ∧ f11 q3 = _)
  have oC11 := (⟨oC10.1, (congrFun hf11 q4).trans ((va_up_ne _ _ ne_oC_oD).trans oC10.2)⟩ : q4 ∈ L9 ∧ f11 q4 = _)
  have oE11 := (⟨oE10.1, (congrFun hf11 q6).trans ((va_up_ne _ _ (Ne.symm ne_oD_oE)).trans oE10.2)⟩ : q6 ∈ L9 ∧ f11 q6 = _)
  have rA11 := fun j (hj : j < (n - i) * 3 / 2) => (⟨(rA10 j hj).1, (congrFun hf11 (r1 j)).trans ((va_up_ne _ _ (ne_rA_oD j hj)).trans (rA10 j hj).2)⟩ : r1 j ∈ L9 ∧ f11 (r1 j) = _)
  have rE11 := fun j (hj : j < n - i) => (⟨(rE10 j hj).1, (congrFun hf11 (r7 j)).trans ((va_up_ne _ _ (Ne.symm (ne_oD_rE j hj))).trans (rE10 j hj).2)⟩ : r7 j ∈ L9 ∧ f11 (r7 j) = _)
  have oD11 : q5 ∈ L9 ∧ f11 q5 = hl_row g n (fun _ => -1) := ⟨oD10.1, by rw [hf11, va_up_self]⟩
  refine lv_aload_n X.1 X.2.1 d_K_init_66 rfl (lv_at hl 2 rfl) ?_
  refine hl_get X hK hh (ref := "CycleGroups$Link") i_K (ci := 3) rfl 3 (by decide) w_123 rfl hpk11.1 hpk11.2 rfl d_K_init_67 ?_
  refine lv_iconst (v := nI 0) X.1 X.2.1 d_K_init_70 (by decide) ?_
  refine lv_iload_n X.1 X.2.1 d_K_init_71 rfl (lv_at hl 3 rfl) ?_
  refine hl_iastN X hK hh oC11.1 oC11.2 (by omega) (by omega) d_K_init_72 (fun H locs hh => ?_)
  obtain ⟨f12, hf12⟩ : ∃ x : Nat → va_E, x = va_up f11 q4 (hl_nat g (n - i) (va_up (fun _ => 0) 0 i)) := ⟨_, rfl⟩
  have hh : hl_H g (hm_A sz L) s.heap L9 f12 H locs := by rw [hf12]; exact hh
  have hpk12 := (⟨hpk11.1, (congrFun hf12 k).trans ((va_up_ne _ _ ne_hpk_oC).trans hpk11.2)⟩ : k ∈ L9 ∧ f12 k = _)
  have oA12 := (⟨oA11.1, (congrFun hf12 q1).trans ((va_up_ne _ _ ne_oA_oC).trans oA11.2)⟩ : q1 ∈ L9 ∧ f12 q1 = _)
  have oB12 := (⟨oB11.1, (congrFun hf12 q3).trans ((va_up_ne _ _ ne_oB_oC).trans oB11.2)⟩ : q3 ∈ L9 ∧ f12 q3 = _)
  have oD12 := (⟨oD11.1, (congrFun hf12 q5).trans ((va_up_ne _ _ (Ne.symm ne_oC_oD)).trans oD11.2)⟩ : q5 ∈ L9 ∧ f12 q5 = _)
  have oE12 := (⟨oE11.1, (congrFun hf12 q6).trans ((va_up_ne _ _ (Ne.symm ne_oC_oE)).trans oE11.2)⟩ : q6 ∈ L9 ∧ f12 q6 = _)
  have rA12 := fun j (hj : j < (n - i) * 3 / 2) => (⟨(rA11 j hj).1, (congrFun hf12 (r1 j)).trans ((va_up_ne _ _ (ne_rA_oC j hj)).trans (rA11 j hj).2)⟩ : r1 j ∈ L9 ∧ f12 (r1 j) = _)
  have rE12 := fun j (hj : j < n - i) => (⟨(rE11 j hj).1, (congrFun hf12 (r7 j)).trans ((va_up_ne _ _ (Ne.symm (ne_oC_rE j hj))).trans (rE11 j hj).2)⟩ : r7 j ∈ L9 ∧ f12 (r7 j) = _)
  have oC12 : q4 ∈ L9 ∧ f12 q4 = hl_nat g (n - i) (va_up (fun _ => 0) 0 i) := ⟨oC11.1, by rw [hf12, va_up_self]⟩
  refine lv_aload_n X.1 X.2.1 d_K_init_73 rfl (lv_at hl 2 rfl) ?_
  refine hl_get X hK hh (ref := "CycleGroups$Link") i_K (ci := 3) rfl 5 (by decide) w_125 rfl hpk12.1 hpk12.2 rfl d_K_init_74 ?_
  refine lv_iload_n X.1 X.2.1 d_K_init_77 rfl (lv_at hl 3 rfl) ?_
  refine lv_iconst (v := nI 0) X.1 X.2.1 d_K_init_78 (by decide) ?_
  refine hl_iast X hK hh oD12.1 oD12.2 (by omega) (by omega) d_K_init_79 (fun H locs hh => ?_)
  obtain ⟨f13, hf13⟩ : ∃ x : Nat → va_E, x = va_up f12 q5 (hl_row g n (va_up (fun _ => -1) i (nI 0))) := ⟨_, rfl⟩
  have hh : hl_H g (hm_A sz L) s.heap L9 f13 H locs := by rw [hf13]; exact hh
  have hpk13 := (⟨hpk12.1, (congrFun hf13 k).trans ((va_up_ne _ _ ne_hpk_oD).trans hpk12.2)⟩ : k ∈ L9 ∧ f13 k = _)
  have oA13 := (⟨oA12.1, (congrFun hf13 q1).trans ((va_up_ne _ _ ne_oA_oD).trans oA12.2)⟩ : q1 ∈ L9 ∧ f13 q1 = _)
  have oB13 := (⟨oB12.1, (congrFun hf13 q3).trans ((va_up_ne _ _ ne_oB_oD).trans oB12.2)⟩ : q3 ∈ L9 ∧ f13 q3 = _)
  have oC13 := (⟨oC12.1, (congrFun hf13 q4).trans ((va_up_ne _ _ ne_oC_oD).trans oC12.2)⟩ : q4 ∈ L9 ∧ f13 q4 = _)
  have oE13 := (⟨oE12.1, (congrFun hf13 q6).trans ((va_up_ne _ _ (Ne.symm ne_oD_oE)).trans oE12.2)⟩ : q6 ∈ L9 ∧ f13 q6 = _)
  have rA13 := fun j (hj : j < (n - i) * 3 / 2) => (⟨(rA12 j hj).1, (congrFun hf13 (r1 j)).trans ((va_up_ne _ _ (ne_rA_oD j hj)).trans (rA12 j hj).2)⟩ : r1 j ∈ L9 ∧ f13 (r1 j) = _)
  have rE13 := fun j (hj : j < n - i) => (⟨(rE12 j hj).1, (congrFun hf13 (r7 j)).trans ((va_up_ne _ _ (Ne.symm (ne_oD_rE j hj))).trans (rE12 j hj).2)⟩ : r7 j ∈ L9 ∧ f13 (r7 j) = _)
  have oD13 : q5 ∈ L9 ∧ f13 q5 = hl_row g n (va_up (fun _ => -1) i (nI 0)) := ⟨oD12.1, by rw [hf13, va_up_self]⟩
  refine lv_aload_n X.1 X.2.1 d_K_init_80 rfl (lv_at hl 2 rfl) ?_
  refine lv_iconst (v := nI 1) X.1 X.2.1 d_K_init_81 (by decide) ?_
  refine hl_put X hK hh (ref := "CycleGroups$Link") i_K t_K t_K_ok n_K (ci := 3) rfl 4 (by decide) w_124 rfl rfl hpk13.1 hpk13.2 (by first | rfl | decide) (by first | rfl | decide) (Nat.le_of_ble_eq_true rfl) d_K_init_82 (fun H locs hh => ?_)
  obtain ⟨f14, hf14⟩ : ∃ x : Nat → va_E, x = va_up f13 k (.inr (3, [.ref q1, .int 0, .ref q3, .ref q4, .int (nI 1), .ref q5, .ref q6])) := ⟨_, rfl⟩
  have hh : hl_H g (hm_A sz L) s.heap L9 f14 H locs := by rw [hf14]; exact hh
  have oA14 := (⟨oA13.1, (congrFun hf14 q1).trans ((va_up_ne _ _ (Ne.symm ne_hpk_oA)).trans oA13.2)⟩ : q1 ∈ L9 ∧ f14 q1 = _)
  have oB14 := (⟨oB13.1, (congrFun hf14 q3).trans ((va_up_ne _ _ (Ne.symm ne_hpk_oB)).trans oB13.2)⟩ : q3 ∈ L9 ∧ f14 q3 = _)
  have oC14 := (⟨oC13.1, (congrFun hf14 q4).trans ((va_up_ne _ _ (Ne.symm ne_hpk_oC)).trans oC13.2)⟩ : q4 ∈ L9 ∧ f14 q4 = _)
  have oD14 := (⟨oD13.1, (congrFun hf14 q5).trans ((va_up_ne _ _ (Ne.symm ne_hpk_oD)).trans oD13.2)⟩ : q5 ∈ L9 ∧ f14 q5 = _)
  have oE14 := (⟨oE13.1, (congrFun hf14 q6).trans ((va_up_ne _ _ (Ne.symm ne_hpk_oE)).trans oE13.2)⟩ : q6 ∈ L9 ∧ f14 q6 = _)
  have rA14 := fun j (hj : j < (n - i) * 3 / 2) => (⟨(rA13 j hj).1, (congrFun hf14 (r1 j)).trans ((va_up_ne _ _ (Ne.symm (ne_hpk_rA j hj))).trans (rA13 j hj).2)⟩ : r1 j ∈ L9 ∧ f14 (r1 j) = _)
  have rE14 := fun j (hj : j < n - i) => (⟨(rE13 j hj).1, (congrFun hf14 (r7 j)).trans ((va_up_ne _ _ (Ne.symm (ne_hpk_rE j hj))).trans (rE13 j hj).2)⟩ : r7 j ∈ L9 ∧ f14 (r7 j) = _)
  have hpk14 : k ∈ L9 ∧ f14 k = .inr (3, [.ref q1, .int 0, .ref q3, .ref q4, .int (nI 1), .ref q5, .ref q6]) := ⟨hpk13.1, by rw [hf14, va_up_self]⟩
  refine lv_aload_n X.1 X.2.1 d_K_init_85 rfl (lv_at hl 2 rfl) ?_
  refine hl_get X hK hh (ref := "CycleGroups$Link") i_K (ci := 3) rfl 6 (by decide) w_126 rfl hpk14.1 hpk14.2 rfl d_K_init_86 ?_
  refine lv_iconst (v := nI 0) X.1 X.2.1 d_K_init_89 (by decide) ?_
  refine hl_aaldG X hK hh oE14.1 oE14.2 (by omega) (by omega) (if_pos (by omega)) d_K_init_90 ?_
  refine hl_callv hh (hl_runSN (k := 1) X hK hh (c_C_leaveAll l g _ L9 f14 (r7 0) n (fun _ => 0) (rE14 0 (by omega)).1 (rE14 0 (by omega)).2 (by omega)) wc_C_leaveAll hK.2.2.2.1 w_1 wi_C_leaveAll (by decide +kernel) rfl rfl ⟨Nat.le_of_ble_eq_true rfl, Nat.le_of_ble_eq_true rfl⟩ rfl rfl (Nat.le_of_ble_eq_true rfl) hl.1 d_K_init_91 ⟨by show 0 + 1 + (n - i) * 3 / 2 + 1 + 1 + 1 + 1 + (n - i) + 0 + 0 ≤ 65; omega, by show 0 + (n - i) * 3 / 2 + (n - i) * 3 / 2 * n + (n - i) * 3 / 2 + (n - i) + n + (n - i) + (n - i) * n + 0 + 0 ≤ 1600; omega⟩) (fun u H locs hp hh => ?_)
  subst hp
  have hf0 : 0 < n - i := by omega
  have nr : ∀ a, (∀ j, j < n - i → a ≠ r7 j) → va_up f14 (r7 0) (hl_nat g n id) a = f14 a := fun a h => va_up_ne _ _ (h 0 hf0)
  have m1 : ∀ q, q ∈ L → q ∈ L1 := fun q h => (E1 q h).1
  have m3 : ∀ q, q ∈ L → q ∈ L3 := fun q h => (E3 q (m1 q h)).1
  have m5 : ∀ q, q ∈ L → q ∈ L5 := fun q h => (E5 q (m3 q h)).1
  have m7 : ∀ q, q ∈ L → q ∈ L7 := fun q h => (E7 q (m5 q h)).1
  have m9 : ∀ q, q ∈ L → q ∈ L9 := fun q h => (E9 q (m7 q h)).1
  have x1 : ∀ q, q ∈ L → q ≠ q1 := fun q h e0 => hq1 (by rw [← e0]; exact List.mem_append_left _ h)
  have x2 : ∀ q, q ∈ L → ∀ j, j < (n - i) * 3 / 2 → r1 j ≠ q := fun q h j hj e0 => hr1 j hj (by rw [e0]; exact h)
  have x3 : ∀ q, q ∈ L → q ≠ q3 := fun q h e0 => hq3 (e0 ▸ m1 q h)
  have x4 : ∀ q, q ∈ L → q ≠ q4 := fun q h e0 => hq4 (e0 ▸ m3 q h)
  have x5 : ∀ q, q ∈ L → q ≠ q5 := fun q h e0 => hq5 (e0 ▸ m5 q h)
  have x6 : ∀ q, q ∈ L → q ≠ q6 := fun q h e0 => hq6 (by rw [← e0]; exact List.mem_append_left _ (m7 q h))
  have x7 : ∀ q, q ∈ L → ∀ j, j < n - i → r7 j ≠ q := fun q h j hj e0 => hr7 j hj (by rw [e0]; exact m7 q h)
  let T0 : Nat → Nat := va_up (va_up (va_up (va_up (va_up T q1 (100 + 1536 * 1 + 64 * i)) q3 (100 + 1536 * 3 + 64 * i)) q4 (100 + 1536 * 4 + 64 * i)) q5 (100 + 1536 * 5 + 64 * i)) q6 (100 + 1536 * 6 + 64 * i)
  let T1 : Nat → Nat := tg_rows (tg_rows T0 r1 ((n - i) * 3 / 2) (100 + 1536 * 2 + 64 * i)) r7 (n - i) (100 + 1536 * 7 + 64 * i)
  have hT1 : ∀ q, (∀ j, j < n - i → r7 j ≠ q) → (∀ j, j < (n - i) * 3 / 2 → r1 j ≠ q) → T1 q = T0 q := fun q h1 h2 => (tg_rows_out h1).trans (tg_rows_out h2)
  have hTL : ∀ q, q ∈ L → T1 q = T q := fun q h => by
    rw [hT1 q (x7 q h) (x2 q h)]
    show va_up (va_up (va_up (va_up (va_up T q1 _) q3 _) q4 _) q5 _) q6 _ q = T q
    rw [va_up_ne _ _ (x6 q h), va_up_ne _ _ (x5 q h), va_up_ne _ _ (x4 q h), va_up_ne _ _ (x3 q h), va_up_ne _ _ (x1 q h)]
  let ad1 : Nat → Nat → Nat → Nat := fun k1 i1 j => if i1 = i then (if k1 = 0 then k else if k1 = 1 then q1 else if k1 = 2 then r1 j else if k1 = 3 then q3 else if k1 = 4 then q4 else if k1 = 5 then q5 else if k1 = 6 then q6 else r7 j) else ad k1 i1 j
  have ha0 : ∀ j, ad1 0 i j = k := fun j => by simp [ad1]
  have ha1 : ∀ j, ad1 1 i j = q1 := fun j => by simp [ad1]
  have ha2 : ∀ j, ad1 2 i j = r1 j := fun j => by simp [ad1]
  have ha3 : ∀ j, ad1 3 i j = q3 := fun j => by simp [ad1]
  have ha4 : ∀ j, ad1 4 i j = q4 := fun j => by simp [ad1]
  have ha5 : ∀ j, ad1 5 i j = q5 := fun j => by simp [ad1]
  have ha6 : ∀ j, ad1 6 i j = q6 := fun j => by simp [ad1]
  have ha7 : ∀ j, ad1 7 i j = r7 j := fun j => by simp [ad1]
  have hTT : lk_T T1 ad1 n i := by
    intro k1 j hk1 hj
    match k1, hk1, hj with
    | 0, _, hj => rw [show j = 0 from hj, ha0, hTL k hk]; omega
    | 1, _, hj =>
      rw [show j = 0 from hj, ha1, hT1 q1 (fun j hj => Ne.symm (ne_oA_rE j hj)) ne_rA_oA]
      show va_up (va_up (va_up (va_up (va_up T q1 _) q3 _) q4 _) q5 _) q6 _ q1 = _
      rw [va_up_ne _ _ ne_oA_oE, va_up_ne _ _ ne_oA_oD, va_up_ne _ _ ne_oA_oC, va_up_ne _ _ ne_oA_oB, va_up_self]
      rfl
    | 2, _, hj =>
      have hj : j < (n - i) * 3 / 2 := hj
      rw [ha2]
      exact (tg_rows_out (fun j2 hj2 => Ne.symm (ne_rA_rE j hj j2 hj2))).trans (tg_rows_in hi1 hj)
    | 3, _, hj =>
      rw [show j = 0 from hj, ha3, hT1 q3 (fun j hj => Ne.symm (ne_oB_rE j hj)) ne_rA_oB]
      show va_up (va_up (va_up (va_up (va_up T q1 _) q3 _) q4 _) q5 _) q6 _ q3 = _
      rw [va_up_ne _ _ ne_oB_oE, va_up_ne _ _ ne_oB_oD, va_up_ne _ _ ne_oB_oC, va_up_self]
      rfl
    | 4, _, hj =>
      rw [show j = 0 from hj, ha4, hT1 q4 (fun j hj => Ne.symm (ne_oC_rE j hj)) ne_rA_oC]
      show va_up (va_up (va_up (va_up (va_up T q1 _) q3 _) q4 _) q5 _) q6 _ q4 = _
      rw [va_up_ne _ _ ne_oC_oE, va_up_ne _ _ ne_oC_oD, va_up_self]
      rfl
    | 5, _, hj =>
      rw [show j = 0 from hj, ha5, hT1 q5 (fun j hj => Ne.symm (ne_oD_rE j hj)) ne_rA_oD]
      show va_up (va_up (va_up (va_up (va_up T q1 _) q3 _) q4 _) q5 _) q6 _ q5 = _
      rw [va_up_ne _ _ ne_oD_oE, va_up_self]
      rfl
    | 6, _, hj =>
      rw [show j = 0 from hj, ha6, hT1 q6 (fun j hj => ne_rE_oE j hj) ne_rA_oE]
      show va_up (va_up (va_up (va_up (va_up T q1 _) q3 _) q4 _) q5 _) q6 _ q6 = _
      rw [va_up_self]
      rfl
    | 7, _, hj =>
      have hj : j < n - i := hj
      rw [ha7]
      exact tg_rows_in hi7 hj
    | k1 + 8, hk1, _ => omega
  have e5 : va_up (fun _ => (-1 : Int32)) i (nI 0) = fun p => oI (if p = i then some 0 else none) := by
    funext p
    by_cases e0 : p = i
    · rw [e0, va_up_self, if_pos rfl]; rfl
    · rw [va_up_ne _ _ e0, if_neg e0]; rfl
  have hP1 : lk_P g L9 (va_up f14 (r7 0) (hl_nat g n id)) ad1 n i 0 (fun _ _ => 0) (fun _ => 0) 1 (va_up (fun _ => 0) 0 i) (fun p => if p = i then some 0 else none) (fun j => if j = 0 then id else fun _ => 0) := by
    unfold lk_P
    simp only [ha0, ha1, ha2, ha3, ha4, ha5, ha6, ha7]
    refine ⟨⟨hpk14.1, (nr k (fun j hj => ne_hpk_rE j hj)).trans hpk14.2⟩, ⟨oA14.1, (nr q1 (fun j hj => ne_oA_rE j hj)).trans oA14.2⟩, fun j hj => ⟨(rA14 j hj).1, (nr (r1 j) (fun j2 hj2 => ne_rA_rE j hj j2 hj2)).trans (rA14 j hj).2⟩,
      ⟨oB14.1, (nr q3 (fun j hj => ne_oB_rE j hj)).trans oB14.2⟩, ⟨oC14.1, (nr q4 (fun j hj => ne_oC_rE j hj)).trans oC14.2⟩, ⟨oD14.1, ?_⟩, ⟨oE14.1, (nr q6 (fun j hj => Ne.symm (ne_rE_oE j hj))).trans oE14.2⟩, fun j hj => ⟨(rE14 j hj).1, ?_⟩⟩
    · rw [nr q5 (fun j hj => ne_oD_rE j hj), oD14.2, e5]
    · by_cases e0 : j = 0
      · subst e0
        rw [va_up_self, if_pos rfl]
      · rw [va_up_ne _ _ (fun e1 => e0 (hi7 j 0 hj hf0 e1)), if_neg e0]
        exact (rE14 j hj).2
  have hW1 : lk_W n i 0 (fun _ _ => 0) (fun _ => 0) 1 (va_up (fun _ => 0) 0 i) (fun p => if p = i then some 0 else none) (fun j => if j = 0 then id else fun _ => 0) := by
    refine ⟨hn, hi, Nat.zero_le _, fun j hj => absurd hj (Nat.not_lt_zero _), by decide, by omega, va_up_self .., fun s hs => ?_, fun p hp s => ?_, fun s hs => ?_, fun j hj => absurd hj (Nat.not_lt_zero _)⟩
    · have e0 : s = 0 := by omega
      rw [e0, va_up_self]; omega
    · show (if p = i then some 0 else none) = some s ↔ s < 1 ∧ va_up (fun _ => 0) 0 i s = p
      by_cases e0 : p = i
      · rw [if_pos e0]
        constructor
        · intro e2
          cases e2
          exact ⟨by decide, by rw [va_up_self, e0]⟩
        · rintro ⟨hs, _⟩
          have e2 : s = 0 := by omega
          rw [e2]
      · rw [if_neg e0]
        constructor
        · intro e2; cases e2
        · rintro ⟨hs, e2⟩
          have e3 : s = 0 := by omega
          rw [e3, va_up_self] at e2
          exact absurd e2.symm e0
    · have e0 : s = 0 := by omega
      rw [e0]
      exact (gp_sym_sg _).1
  refine hm_vret X hr hlk hh ⟨L9, _, T1, ad1, _, _, _, _, _, rfl, fun q h => ⟨?_, hTL q h⟩, fun q h hqk => ?_, fun i1 hi1 k1 j => by simp [ad1, hi1], ha0 0, hTT, hP1, hW1, rfl⟩ (by omega) (by omega) d_K_init_94
  · exact m9 q h
  · show va_up f14 (r7 0) (hl_nat g n id) q = f q
    rw [nr q (fun j hj => Ne.symm (x7 q h j hj)), hf14, va_up_ne _ _ hqk, hf13, va_up_ne _ _ (x5 q h), hf12, va_up_ne _ _ (x4 q h), hf11, va_up_ne _ _ (x5 q h), hf10, va_up_ne _ _ hqk, (E9 q (m7 q h)).2, hf8, va_up_ne _ _ hqk, (E7 q (m5 q h)).2, hf6, va_up_ne _ _ hqk, (E5 q (m3 q h)).2, hf4, va_up_ne _ _ hqk, (E3 q (m1 q h)).2, hf2, va_up_ne _ _ hqk, (E1 q h).2]
end
end
section
/-! Chain's constructor. -/
section
theorem lk_grow {g : hl_G} {L L1 : List Nat} {f f1 : Nat → va_E} {ad ad1 : Nat → Nat → Nat → Nat} {n i gn : Nat} {G : Nat → Nat → Nat} {pr : Nat → Nat} {sn : Nat} {sp : Nat → Nat} {ix : Nat → Option Nat} {wb : Nat → Nat → Nat}
    (hP : lk_P g L f ad n i gn G pr sn sp ix wb) (he : ∀ k j, ad1 k i j = ad k i j) (hx : ∀ k j, k < 8 → lk_j n i k j → ad k i j ∈ L → ad k i j ∈ L1 ∧ f1 (ad k i j) = f (ad k i j)) : lk_P g L1 f1 ad1 n i gn G pr sn sp ix wb := by
  obtain ⟨⟨p0, q0⟩, ⟨p1, q1⟩, hg, ⟨p3, q3⟩, ⟨p4, q4⟩, ⟨p5, q5⟩, ⟨p6, q6⟩, hw⟩ := hP
  unfold lk_P
  simp only [he]
  have c0 := hx 0 0 (by decide) rfl p0
  have c1 := hx 1 0 (by decide) rfl p1
  have c3 := hx 3 0 (by decide) rfl p3
  have c4 := hx 4 0 (by decide) rfl p4
  have c5 := hx 5 0 (by decide) rfl p5
  have c6 := hx 6 0 (by decide) rfl p6
  exact ⟨⟨c0.1, c0.2.trans q0⟩, ⟨c1.1, c1.2.trans q1⟩, fun j hj => ⟨(hx 2 j (by decide) hj (hg j hj).1).1, (hx 2 j (by decide) hj (hg j hj).1).2.trans (hg j hj).2⟩, ⟨c3.1, c3.2.trans q3⟩, ⟨c4.1, c4.2.trans q4⟩, ⟨c5.1, c5.2.trans q5⟩, ⟨c6.1, c6.2.trans q6⟩,
    fun j hj => ⟨(hx 7 j (by decide) hj (hw j hj).1).1, (hx 7 j (by decide) hj (hw j hj).1).2.trans (hw j hj).2⟩⟩

/-- the links below c of a chain that is being made -/
def cn_part (g : hl_G) (L : List Nat) (f : Nat → va_E) (T : Nat → Nat) (ad : Nat → Nat → Nat → Nat) (n : Nat) (zL : Nat → Option Nat) (gn : Nat → Nat) (G : Nat → Nat → Nat → Nat) (pr : Nat → Nat → Nat) (sn : Nat → Nat) (sp : Nat → Nat → Nat) (ix : Nat → Nat → Option Nat) (wb : Nat → Nat → Nat → Nat) (c : Nat) : Prop :=
  ∀ i, i < c → zL i = some (ad 0 i 0) ∧ (∀ k j, k < 8 → lk_j n i k j → ad k i j ∈ L) ∧ lk_T T ad n i ∧ lk_P g L f ad n i (gn i) (G i) (pr i) (sn i) (sp i) (ix i) (wb i) ∧ lk_W n i (gn i) (G i) (pr i) (sn i) (sp i) (ix i) (wb i) ∧ wb i 0 = id

theorem lk_cells {g : hl_G} {L : List Nat} {f : Nat → va_E} {ad : Nat → Nat → Nat → Nat} {n i gn : Nat} {G : Nat → Nat → Nat} {pr : Nat → Nat} {sn : Nat} {sp : Nat → Nat} {ix : Nat → Option Nat} {wb : Nat → Nat → Nat}
    (hP : lk_P g L f ad n i gn G pr sn sp ix wb) : ∀ k j, k < 8 → lk_j n i k j → ad k i j ∈ L := by
  intro k j hk hj
  obtain ⟨⟨p0, _⟩, ⟨p1, _⟩, hg, ⟨p3, _⟩, ⟨p4, _⟩, ⟨p5, _⟩, ⟨p6, _⟩, hw⟩ := hP
  match k, hk, hj with
  | 0, _, hj => rw [show j = 0 from hj]; exact p0
  | 1, _, hj => rw [show j = 0 from hj]; exact p1
  | 2, _, hj => exact (hg j hj).1
  | 3, _, hj => rw [show j = 0 from hj]; exact p3
  | 4, _, hj => rw [show j = 0 from hj]; exact p4
  | 5, _, hj => rw [show j = 0 from hj]; exact p5
  | 6, _, hj => rw [show j = 0 from hj]; exact p6
  | 7, _, hj => exact (hw j hj).1
  | k + 8, hk, _ => omega

/-- Chain(int places) -/
theorem c_H_init (l : Launch) (g : hl_G) (sz : Nat) (L : List Nat) (f : Nat → va_E) (T : Nat → Nat) (n ch : Nat) (hch : ch ∈ L) (hfc : f ch = .inr (1, [.int 0, .null, .null])) (hTc : T ch = 7) (hn : n ≤ 24) :
    Met l y_H_init (hq y_H_init b_H_init 3 none) { frames := 2, cells := 1600, slots := 40000, locals := 60 } (hm_P g [.ref ch, .int (nI n)] sz L f) (va_Qv (fun u => ∃ (L1 : List Nat) (f1 : Nat → va_E) (T1 : Nat → Nat) (ad : Nat → Nat → Nat → Nat) (lO wk : Nat) (zL : Nat → Option Nat) (gn : Nat → Nat) (G : Nat → Nat → Nat → Nat) (pr : Nat → Nat → Nat) (sn : Nat → Nat) (sp : Nat → Nat → Nat) (ix : Nat → Nat → Option Nat) (wb : Nat → Nat → Nat → Nat) (y : Nat → Nat), u = (L1, f1) ∧ (∀ q, q ∈ L → q ∈ L1 ∧ T1 q = T q) ∧ (∀ q, q ∈ L → q ≠ ch → f1 q = f q) ∧ cn_P g L1 f1 T1 ad n ch lO wk zL gn G pr sn sp ix wb y ∧ cn_W n gn G pr sn sp ix wb ∧ ∀ i, i < n → wb i 0 = id) (hm_B g sz L) (hm_A sz L)) 1600 40000 (hm_A sz L) := by
  refine hm_ofW (by decide) (Nat.le_of_ble_eq_true rfl) ?_
  intro p e s m below meth c X hr hlk hnm hK hsz hh ls hl
  have hl : lv_has ls 3 [(0, .ref ch), (1, .int (nI n))] := hl
  have hpc : ch ∈ L ∧ f ch = .inr (1, [.int 0, .null, .null]) := ⟨hch, hfc⟩
  have loop : ∀ (t i : Nat) (L1 : List Nat) (f1 : Nat → va_E) (T1 : Nat → Nat) (ad : Nat → Nat → Nat → Nat) (lO wk : Nat) (zL : Nat → Option Nat) (gn : Nat → Nat) (G : Nat → Nat → Nat → Nat) (pr : Nat → Nat → Nat) (sn : Nat → Nat) (sp : Nat → Nat → Nat) (ix : Nat → Nat → Option Nat) (wb : Nat → Nat → Nat → Nat) (y : Nat → Nat) (H : Heap) (locs : List Loc) (ls : Array Slot),
      n + 1 ≤ i + t → i ≤ n → lO ∉ L → (∀ q, q ∈ L → q ∈ L1 ∧ T1 q = T q) → (∀ q, q ∈ L → q ≠ ch → f1 q = f q) → (ch ∈ L1 ∧ f1 ch = .inr (1, [.int (nI n), .ref lO, .ref wk]) ∧ T1 ch = 7) → (lO ∈ L1 ∧ f1 lO = hl_lks g n zL ∧ T1 lO = 8) → (wk ∈ L1 ∧ f1 wk = hl_nat g n y ∧ T1 wk = 9) →
      cn_part g L1 f1 T1 ad n zL gn G pr sn sp ix wb i → hl_H g (hm_A sz L) s.heap L1 f1 H locs → lv_has ls 3 [(2, .int (nI i)), (0, .ref ch), (1, .int (nI n))] →
      W p l e { frames := 2, cells := 1600, slots := 40000, locals := 60 } s m #[.ref ch, .int (nI n)] below meth c H locs (2 + 66 * i) (48 + 1607 * i) (MQ below (va_Qv (fun u => ∃ (L1 : List Nat) (f1 : Nat → va_E) (T1 : Nat → Nat) (ad : Nat → Nat → Nat → Nat) (lO wk : Nat) (zL : Nat → Option Nat) (gn : Nat → Nat) (G : Nat → Nat → Nat → Nat) (pr : Nat → Nat → Nat) (sn : Nat → Nat) (sp : Nat → Nat → Nat) (ix : Nat → Nat → Option Nat) (wb : Nat → Nat → Nat → Nat) (y : Nat → Nat), u = (L1, f1) ∧ (∀ q, q ∈ L → q ∈ L1 ∧ T1 q = T q) ∧ (∀ q, q ∈ L → q ≠ ch → f1 q = f q) ∧ cn_P g L1 f1 T1 ad n ch lO wk zL gn G pr sn sp ix wb y ∧ cn_W n gn G pr sn sp ix wb ∧ ∀ i, i < n → wb i 0 = id) (hm_B g sz L) (hm_A sz L)) #[.ref ch, .int (nI n)] s 1600 40000 (hm_A sz L)) (F0 m 26 ls []) := by
    intro t
    induction t with
    | zero => intros; omega
    | succ t ih =>
      intro i L1 f1 T1 ad lO wk zL gn G pr sn sp ix wb y H locs ls hk hin hnO hL1 hfr1 hc1 hl1 hw1 hpt hh hl
      refine lv_iload_n X.1 X.2.1 d_H_init_26 rfl (lv_at hl 0 rfl) ?_
      refine lv_iload_n X.1 X.2.1 d_H_init_27 rfl (lv_at hl 2 rfl) ?_
      refine hn_ige (tgt := 52) X (by omega) (by omega) d_H_init_28 (by decide) (fun hc => ?_) (fun hc => ?_)
      · have e0 : i = n := by omega
        subst e0
        exact hm_vret X hr hlk hh ⟨L1, f1, T1, ad, lO, wk, zL, gn, G, pr, sn, sp, ix, wb, y, rfl, hL1, hfr1, ⟨hc1, hl1, hw1, fun j hj => ⟨(hpt j hj).1, (hpt j hj).2.2.1, (hpt j hj).2.2.2.1⟩⟩, fun j hj => (hpt j hj).2.2.2.2.1, fun j hj => (hpt j hj).2.2.2.2.2⟩ (by omega) (by omega) d_H_init_52
      · have hlt : i < n := hc
        refine lv_aload_n X.1 X.2.1 d_H_init_31 rfl (lv_at hl 1 rfl) ?_
        refine hl_get X hK hh (ref := "CycleGroups$Chain") i_H (ci := 1) rfl 1 (by decide) w_143 rfl hc1.1 hc1.2.1 rfl d_H_init_32 ?_
        refine lv_iload_n X.1 X.2.1 d_H_init_35 rfl (lv_at hl 0 rfl) ?_
        refine hl_new X hK hh i_K t_K t_K_ok w_108 (by decide +kernel) (by decide +kernel) (ci := 3) rfl (fs := [.null, .int 0, .null, .null, .int 0, .null, .null]) (fun j hj => by rcases (show j = 0 ∨ j = 1 ∨ j = 2 ∨ j = 3 ∨ j = 4 ∨ j = 5 ∨ j = 6 by omega) with rfl | rfl | rfl | rfl | rfl | rfl | rfl <;> rfl) (by show 2 + 66 * i + 1 ≤ 1600; omega) (by show 48 + 1607 * i + 7 ≤ 40000; omega) d_H_init_36 (fun k H hqk hh => ?_)
        obtain ⟨f2, hf2⟩ : ∃ x : Nat → va_E, x = va_up f1 k (.inr (3, [.null, .int 0, .null, .null, .int 0, .null, .null])) := ⟨_, rfl⟩
        have hh : hl_H g (hm_A sz L) s.heap (L1 ++ [k]) f2 H locs := by rw [hf2]; exact hh
        have o2 : ∀ q, q ∈ L1 → q ≠ k := fun q h e0 => hqk (e0 ▸ h)
        have g2 : ∀ q, q ∈ L1 → f2 q = f1 q := fun q h => by rw [hf2, va_up_ne _ _ (o2 q h)]
        have hk2 : k ∈ L1 ++ [k] := List.mem_append_right _ (List.mem_singleton.2 rfl)
        refine lv_dup X.1 X.2.1 d_H_init_39 rfl ?_
        refine lv_iload_n X.1 X.2.1 d_H_init_40 rfl (lv_at hl 0 rfl) ?_
        refine lv_iload_n X.1 X.2.1 d_H_init_41 rfl (lv_at hl 2 rfl) ?_
        refine hl_callv hh (hl_runI (k := 2) X hK hh (c_K_init l g _ (L1 ++ [k]) f2 (va_up T1 k (100 + 64 * i)) ad n i k hk2 (by rw [hf2, va_up_self]) (va_up_self ..) hn hlt) wc_K_init w_111 w_7 wi_K_init rfl (by decide +kernel) rfl rfl ⟨Nat.le_of_ble_eq_true rfl, Nat.le_of_ble_eq_true rfl⟩ rfl rfl (Nat.le_of_ble_eq_true rfl) hl.1 d_H_init_42 ⟨by show 2 + 66 * i + 1 + 65 ≤ 1600; omega, by show 48 + 1607 * i + 7 + 1600 ≤ 40000; omega⟩) (fun u H locs hp hh => ?_)
        obtain ⟨L3, f3, T3, ad3, G3, pr3, sp3, ix3, wb3, rfl, hL3, hfr3, had3, hk3, hT3, hP3, hW3, hwb3⟩ := hp
        have i3 : ∀ q, q ∈ L1 → q ∈ L3 ∧ T3 q = T1 q := fun q h => ⟨(hL3 q (List.mem_append_left _ h)).1, ((hL3 q (List.mem_append_left _ h)).2).trans (va_up_ne _ _ (o2 q h))⟩
        have g3 : ∀ q, q ∈ L1 → f3 q = f1 q := fun q h => (hfr3 q (List.mem_append_left _ h) (o2 q h)).trans (g2 q h)
        have hlO3 : f3 lO = hl_lks g n zL := (g3 lO hl1.1).trans hl1.2.1
        have hfk3 := hP3.1.2
        rw [hk3] at hfk3
        have hkL3 : k ∈ L3 := (hL3 k hk2).1
        have hh : hl_H g (hm_A sz L) s.heap L3 f3 H locs := hh
        refine hl_aastL X hK hh (i3 lO hl1.1).1 hlO3 hkL3 hfk3 hlt (by omega) d_H_init_45 (fun H locs hh => ?_)
        refine lv_iinc (v := nI (i + 1)) (lv' := [(2, .int (nI (i + 1))), (0, .ref ch), (1, .int (nI n))]) X.1 X.2.1 d_H_init_46 hl (k := 0) rfl (hn_inc _) (by decide) rfl (fun ls hl => ?_)
        refine lv_goto (tgt := 26) X.1 X.2.1 d_H_init_49 (by decide) ?_
        have hTlO : T3 lO = 8 := (i3 lO hl1.1).2.trans hl1.2.2
        have tg3 : ∀ i1, lk_T T3 ad3 n i1 → ∀ k1 j, k1 < 8 → lk_j n i1 k1 j → ad3 k1 i1 j ≠ lO := fun i1 h k1 j h1 h2 => hl_ne (T := T3) (by rw [h k1 j h1 h2, hTlO]; omega)
        obtain ⟨f4, hf4⟩ : ∃ x : Nat → va_E, x = va_up f3 lO (hl_lks g n (va_up zL i (some k))) := ⟨_, rfl⟩
        have hh : hl_H g (hm_A sz L) s.heap L3 f4 H locs := by rw [hf4]; exact hh
        have g4 : ∀ q, q ≠ lO → f4 q = f3 q := fun q h => by rw [hf4, va_up_ne _ _ h]
        have nc : ch ≠ lO := hl_ne (T := T1) (by rw [hc1.2.2, hl1.2.2]; decide)
        have nw : wk ≠ lO := hl_ne (T := T1) (by rw [hw1.2.2, hl1.2.2]; decide)
        refine W.widen (k := 2 + 66 * (i + 1)) (n := 48 + 1607 * (i + 1)) (by omega) (by omega) ?_
        refine ih (i + 1) L3 f4 T3 ad3 lO wk (va_up zL i (some k)) (va_up gn i 0) (va_up G i G3) (va_up pr i pr3) (va_up sn i 1) (va_up sp i sp3) (va_up ix i ix3) (va_up wb i wb3) y H locs ls (by omega) (by omega) hnO
          (fun q h => ⟨(i3 q (hL1 q h).1).1, (i3 q (hL1 q h).1).2.trans (hL1 q h).2⟩) (fun q h hqc => ?_) ⟨(i3 ch hc1.1).1, (g4 ch nc).trans ((g3 ch hc1.1).trans hc1.2.1), (i3 ch hc1.1).2.trans hc1.2.2⟩ ⟨(i3 lO hl1.1).1, by rw [hf4, va_up_self], hTlO⟩ ⟨(i3 wk hw1.1).1, (g4 wk nw).trans ((g3 wk hw1.1).trans hw1.2.1), (i3 wk hw1.1).2.trans hw1.2.2⟩ (fun i1 hi1 => ?_) hh hl
        · by_cases e0 : q = lO
          · exact absurd (e0 ▸ h) hnO
          · rw [g4 q e0, g3 q (hL1 q h).1]; exact hfr1 q h hqc
        · by_cases e0 : i1 = i
          · subst e0
            simp only [va_up_self]
            refine ⟨by rw [hk3], lk_cells hP3, hT3, ?_, hW3, hwb3⟩
            exact lk_grow hP3 (fun _ _ => rfl) (fun k1 j h1 h2 h3 => ⟨h3, g4 _ (tg3 i1 hT3 k1 j h1 h2)⟩)
          · simp only [va_up_ne _ _ e0]
            obtain ⟨y1, y2, y3, y4, y5, y6⟩ := hpt i1 (by omega)
            have he := had3 i1 e0
            have hT4 : lk_T T3 ad3 n i1 := fun k1 j h1 h2 => by rw [he, (i3 _ (y2 k1 j h1 h2)).2]; exact y3 k1 j h1 h2
            refine ⟨by rw [y1, he], fun k1 j h1 h2 => by rw [he]; exact (i3 _ (y2 k1 j h1 h2)).1, hT4, ?_, y5, y6⟩
            refine lk_grow y4 he (fun k1 j h1 h2 h3 => ⟨(i3 _ h3).1, ?_⟩)
            have h5 := tg3 i1 hT4 k1 j h1 h2
            rw [he] at h5
            rw [g4 _ h5, g3 _ h3]
  refine lv_aload_n X.1 X.2.1 d_H_init_0 rfl (lv_at hl 0 rfl) ?_
  refine hl_objI X w_107 hl.1 (Nat.le_of_ble_eq_true rfl) (Nat.le_of_ble_eq_true rfl) d_H_init_1 ?_
  obtain ⟨locs, hlocs⟩ : ∃ x : List Loc, x = [] := ⟨_, rfl⟩
  rw [← hlocs] at hh ⊢
  obtain ⟨H, hH⟩ : ∃ x : Heap, x = s.heap := ⟨_, rfl⟩
  have hh : hl_H g (hm_A sz L) s.heap L f H locs := by rw [hH]; exact hh
  rw [← hH]
  refine lv_aload_n X.1 X.2.1 d_H_init_4 rfl (lv_at hl 0 rfl) ?_
  refine lv_iload_n X.1 X.2.1 d_H_init_5 rfl (lv_at hl 1 rfl) ?_
  refine hl_putF X hK hh hnm (ref := "CycleGroups$Chain") i_H t_H t_H_ok n_H (ci := 1) rfl 0 (by decide) w_142 rfl rfl rfl hpc.1 hpc.2 (by first | rfl | decide) (by first | rfl | decide) (Nat.le_of_ble_eq_true rfl) d_H_init_6 (fun H locs hh => ?_)
  obtain ⟨f1, hf1⟩ : ∃ x : Nat → va_E, x = va_up f ch (.inr (1, [.int (nI n), .null, .null])) := ⟨_, rfl⟩
  have hh : hl_H g (hm_A sz L) s.heap L f1 H locs := by rw [hf1]; exact hh
  have hpc1 : ch ∈ L ∧ f1 ch = .inr (1, [.int (nI n), .null, .null]) := ⟨hpc.1, by rw [hf1, va_up_self]⟩
  refine lv_aload_n X.1 X.2.1 d_H_init_9 rfl (lv_at hl 0 rfl) ?_
  refine lv_iload_n X.1 X.2.1 d_H_init_10 rfl (lv_at hl 1 rfl) ?_
  refine hl_newL X hK hh (n := n) (by omega) w_108 (by show 0 + 1 ≤ 1600; omega) (by show 0 + n ≤ 40000; omega) d_H_init_11 (fun lO H hlO hh => ?_)
  obtain ⟨L2, hL2⟩ : ∃ x : List Nat, x = L ++ [lO] := ⟨_, rfl⟩
  obtain ⟨f2, hf2⟩ : ∃ x : Nat → va_E, x = va_up f1 lO (hl_lks g n (fun _ => none)) := ⟨_, rfl⟩
  have hh : hl_H g (hm_A sz L) s.heap L2 f2 H locs := by rw [hL2, hf2]; exact hh
  have ne_hpc_oL : ch ≠ lO := fun e0 => hlO (e0 ▸ hpc1.1)
  have E2 : hl_ext L f1 L2 f2 := by rw [hL2, hf2]; exact hl_ext_new hlO
  have hpc2 := (⟨(E2 _ hpc1.1).1, (E2 _ hpc1.1).2.trans hpc1.2⟩ : ch ∈ L2 ∧ f2 ch = _)
  have oL2 : lO ∈ L2 ∧ f2 lO = hl_lks g n (fun _ => none) := ⟨by rw [hL2]; exact List.mem_append_right _ (List.mem_singleton.2 rfl), by rw [hf2, va_up_self]⟩
  refine hl_putF X hK hh hnm (ref := "CycleGroups$Chain") i_H t_H t_H_ok n_H (ci := 1) rfl 1 (by decide) w_143 rfl rfl rfl hpc2.1 hpc2.2 (by first | rfl | decide) (by first | rfl | decide) (Nat.le_of_ble_eq_true rfl) d_H_init_14 (fun H locs hh => ?_)
  obtain ⟨f3, hf3⟩ : ∃ x : Nat → va_E, x = va_up f2 ch (.inr (1, [.int (nI n), .ref lO, .null])) := ⟨_, rfl⟩
  have hh : hl_H g (hm_A sz L) s.heap L2 f3 H locs := by rw [hf3]; exact hh
  have oL3 := (⟨oL2.1, (congrFun hf3 lO).trans ((va_up_ne _ _ (Ne.symm ne_hpc_oL)).trans oL2.2)⟩ : lO ∈ L2 ∧ f3 lO = _)
  have hpc3 : ch ∈ L2 ∧ f3 ch = .inr (1, [.int (nI n), .ref lO, .null]) := ⟨hpc2.1, by rw [hf3, va_up_self]⟩
  refine lv_aload_n X.1 X.2.1 d_H_init_17 rfl (lv_at hl 0 rfl) ?_
  refine lv_iload_n X.1 X.2.1 d_H_init_18 rfl (lv_at hl 1 rfl) ?_
  refine hl_newI X hK hh (n := n) (by omega) (by show 0 + 1 + 1 ≤ 1600; omega) (by show 0 + n + n ≤ 40000; omega) d_H_init_19 (fun wk H hwk hh => ?_)
  obtain ⟨L4, hL4⟩ : ∃ x : List Nat, x = L2 ++ [wk] := ⟨_, rfl⟩
  obtain ⟨f4, hf4⟩ : ∃ x : Nat → va_E, x = va_up f3 wk (hl_nat g n (fun _ => 0)) := ⟨_, rfl⟩
  have hh : hl_H g (hm_A sz L) s.heap L4 f4 H locs := by rw [hL4, hf4]; exact hh
  have ne_hpc_oW : ch ≠ wk := fun e0 => hwk (e0 ▸ hpc3.1)
  have ne_oL_oW : lO ≠ wk := fun e0 => hwk (e0 ▸ oL3.1)
  have E4 : hl_ext L2 f3 L4 f4 := by rw [hL4, hf4]; exact hl_ext_new hwk
  have hpc4 := (⟨(E4 _ hpc3.1).1, (E4 _ hpc3.1).2.trans hpc3.2⟩ : ch ∈ L4 ∧ f4 ch = _)
  have oL4 := (⟨(E4 _ oL3.1).1, (E4 _ oL3.1).2.trans oL3.2⟩ : lO ∈ L4 ∧ f4 lO = _)
  have oW4 : wk ∈ L4 ∧ f4 wk = hl_nat g n (fun _ => 0) := ⟨by rw [hL4]; exact List.mem_append_right _ (List.mem_singleton.2 rfl), by rw [hf4, va_up_self]⟩
  refine hl_putF X hK hh hnm (ref := "CycleGroups$Chain") i_H t_H t_H_ok n_H (ci := 1) rfl 2 (by decide) w_144 rfl rfl rfl hpc4.1 hpc4.2 (by first | rfl | decide) (by first | rfl | decide) (Nat.le_of_ble_eq_true rfl) d_H_init_21 (fun H locs hh => ?_)
  obtain ⟨f5, hf5⟩ : ∃ x : Nat → va_E, x = va_up f4 ch (.inr (1, [.int (nI n), .ref lO, .ref wk])) := ⟨_, rfl⟩
  have hh : hl_H g (hm_A sz L) s.heap L4 f5 H locs := by rw [hf5]; exact hh
  have oL5 := (⟨oL4.1, (congrFun hf5 lO).trans ((va_up_ne _ _ (Ne.symm ne_hpc_oL)).trans oL4.2)⟩ : lO ∈ L4 ∧ f5 lO = _)
  have oW5 := (⟨oW4.1, (congrFun hf5 wk).trans ((va_up_ne _ _ (Ne.symm ne_hpc_oW)).trans oW4.2)⟩ : wk ∈ L4 ∧ f5 wk = _)
  have hpc5 : ch ∈ L4 ∧ f5 ch = .inr (1, [.int (nI n), .ref lO, .ref wk]) := ⟨hpc4.1, by rw [hf5, va_up_self]⟩
  refine lv_iconst (v := nI 0) X.1 X.2.1 d_H_init_24 (by decide) ?_
  refine lv_istore_n (lv' := [(2, .int (nI 0)), (0, .ref ch), (1, .int (nI n))]) X.1 X.2.1 d_H_init_25 rfl hl (by decide) rfl (fun ls hl => ?_)
  have o1 : ∀ q, q ∈ L → q ≠ lO := fun q h e0 => hlO (e0 ▸ h)
  have o2 : ∀ q, q ∈ L → q ≠ wk := fun q h e0 => hwk (e0 ▸ (E2 q h).1)
  refine W.widen (k := 2 + 66 * 0) (n := 48 + 1607 * 0) (by omega) (by omega) ?_
  refine loop (n + 1) 0 L4 f5 (va_up (va_up T lO 8) wk 9) (fun _ _ _ => 0) lO wk (fun _ => none) (fun _ => 0) (fun _ _ _ => 0) (fun _ _ => 0) (fun _ => 0) (fun _ _ => 0) (fun _ _ => none) (fun _ _ _ => 0) (fun _ => 0) H locs ls (by omega) (by omega) hlO (fun q h => ⟨(E4 q (E2 q h).1).1, ?_⟩) (fun q h hqc => ?_) ⟨hpc5.1, hpc5.2, ?_⟩ ⟨oL5.1, oL5.2, ?_⟩ ⟨oW5.1, oW5.2, va_up_self ..⟩ (fun i hi => absurd hi (Nat.not_lt_zero _)) hh hl
  · rw [va_up_ne _ _ (o2 q h), va_up_ne _ _ (o1 q h)]
  · rw [hf5, va_up_ne _ _ hqc, (E4 q (E2 q h).1).2, hf3, va_up_ne _ _ hqc, (E2 q h).2, hf1, va_up_ne _ _ hqc]
  · rw [va_up_ne _ _ (o2 ch hch), va_up_ne _ _ (o1 ch hch)]; exact hTc
  · rw [va_up_ne _ _ ne_oL_oW, va_up_self]
end
end
