/-! Finite sets by lists, groups of maps of the numbers. Pure: nothing of the machine. -/
section

def gp_card {α : Type} (S : α → Prop) (k : Nat) : Prop :=
  ∃ l : List α, l.Nodup ∧ l.length = k ∧ ∀ x, x ∈ l ↔ S x

theorem gp_card_le {α : Type} {S T : α → Prop} {j k : Nat} (hs : gp_card S j) (ht : gp_card T k)
    (h : ∀ x, S x → T x) : j ≤ k := by
  obtain ⟨l, hn, hl, hm⟩ := hs
  obtain ⟨l', hn', hl', hm'⟩ := ht
  rw [← hl, ← hl']
  exact List.Nodup.length_le_of_subset hn (fun x hx => (hm' x).2 (h x ((hm x).1 hx)))

theorem gp_card_uniq {α : Type} {S : α → Prop} {j k : Nat} (hs : gp_card S j) (ht : gp_card S k) : j = k :=
  Nat.le_antisymm (gp_card_le hs ht (fun _ h => h)) (gp_card_le ht hs (fun _ h => h))

theorem gp_card_congr {α : Type} {S T : α → Prop} {k : Nat} (hs : gp_card S k) (h : ∀ x, S x ↔ T x) :
    gp_card T k := by
  obtain ⟨l, hn, hl, hm⟩ := hs
  exact ⟨l, hn, hl, fun x => (hm x).trans (h x)⟩

theorem gp_card_lt {α : Type} {S T : α → Prop} {j k : Nat} (hs : gp_card S j) (ht : gp_card T k)
    (h : ∀ x, S x → T x) (x : α) (hx : T x) (hnx : ¬ S x) : j < k := by
  obtain ⟨l, hn, hl, hm⟩ := hs
  obtain ⟨l', hn', hl', hm'⟩ := ht
  have h1 : (x :: l).Nodup := List.nodup_cons.2 ⟨fun hxl => hnx ((hm x).1 hxl), hn⟩
  have h2 : (x :: l).length ≤ l'.length := List.Nodup.length_le_of_subset h1 (by
    intro y hy
    rcases List.mem_cons.1 hy with rfl | hy
    · exact (hm' _).2 hx
    · exact (hm' y).2 (h y ((hm y).1 hy)))
  simp only [List.length_cons] at h2
  omega

theorem gp_card_sub {α : Type} {S T : α → Prop} {k : Nat} (ht : gp_card T k) (h : ∀ x, S x → T x) :
    ∃ j, gp_card S j := by
  classical
  obtain ⟨l', hn', _, hm'⟩ := ht
  refine ⟨_, l'.filter (fun x => decide (S x)), List.Nodup.sublist List.filter_sublist hn', rfl, fun x => ?_⟩
  rw [List.mem_filter]
  constructor
  · intro hx; exact of_decide_eq_true hx.2
  · intro hx; exact ⟨(hm' x).2 (h x hx), decide_eq_true hx⟩

theorem gp_card_add {α : Type} {S P : α → Prop} {a b : Nat} (ha : gp_card (fun x => S x ∧ P x) a)
    (hb : gp_card (fun x => S x ∧ ¬ P x) b) : gp_card S (a + b) := by
  classical
  obtain ⟨l, hn, hl, hm⟩ := ha
  obtain ⟨l', hn', hl', hm'⟩ := hb
  refine ⟨l ++ l', ?_, ?_, fun x => ?_⟩
  · rw [List.nodup_append]
    refine ⟨hn, hn', fun x hx y hy e => ?_⟩
    subst e
    exact ((hm' x).1 hy).2 ((hm x).1 hx).2
  · rw [List.length_append, hl, hl']
  · rw [List.mem_append, hm x, hm' x]
    constructor
    · rintro (h | h)
      · exact h.1
      · exact h.1
    · intro h
      by_cases hp : P x
      · exact Or.inl ⟨h, hp⟩
      · exact Or.inr ⟨h, hp⟩

theorem gp_nodup_map {α β : Type} {f : α → β} {l : List α} (hn : l.Nodup)
    (hf : ∀ x y, x ∈ l → y ∈ l → f x = f y → x = y) : (l.map f).Nodup := by
  refine List.pairwise_map.2 (List.Pairwise.imp_of_mem ?_ hn)
  intro a b ha hb hab e
  exact hab (hf a b ha hb e)

theorem gp_card_img {α β : Type} {S : α → Prop} {k : Nat} (hs : gp_card S k) (f : α → β)
    (hf : ∀ x y, S x → S y → f x = f y → x = y) : gp_card (fun y => ∃ x, S x ∧ f x = y) k := by
  obtain ⟨l, hn, hl, hm⟩ := hs
  refine ⟨l.map f, gp_nodup_map hn (fun x y hx hy => hf x y ((hm x).1 hx) ((hm y).1 hy)), ?_, fun y => ?_⟩
  · rw [List.length_map, hl]
  · rw [List.mem_map]
    constructor
    · rintro ⟨x, hx, e⟩; exact ⟨x, (hm x).1 hx, e⟩
    · rintro ⟨x, hx, e⟩; exact ⟨x, (hm x).2 hx, e⟩

theorem gp_prod_list {α β : Type} (l' : List β) (hn' : l'.Nodup) : ∀ (l : List α), l.Nodup →
    ∃ m : List (α × β), m.Nodup ∧ m.length = l.length * l'.length ∧ ∀ x, x ∈ m ↔ x.1 ∈ l ∧ x.2 ∈ l' := by
  intro l
  induction l with
  | nil =>
    intro _
    refine ⟨[], List.nodup_nil, ?_, fun x => ?_⟩
    · simp
    · simp
  | cons a l ih =>
    intro hn
    rw [List.nodup_cons] at hn
    obtain ⟨m, hm1, hm2, hm3⟩ := ih hn.2
    refine ⟨l'.map (fun b => (a, b)) ++ m, ?_, ?_, fun x => ?_⟩
    · rw [List.nodup_append]
      refine ⟨gp_nodup_map hn' ?_, hm1, ?_⟩
      · intro x y _ _ e
        exact (Prod.mk.injEq _ _ _ _ ▸ e).2
      · intro x hx y hy e
        subst e
        rw [List.mem_map] at hx
        obtain ⟨b, _, rfl⟩ := hx
        exact hn.1 ((hm3 _).1 hy).1
    · rw [List.length_append, List.length_map, hm2, List.length_cons, Nat.add_mul, Nat.one_mul, Nat.add_comm]
    · rw [List.mem_append, hm3 x, List.mem_map, List.mem_cons]
      constructor
      · rintro (⟨b, hb, rfl⟩ | ⟨h1, h2⟩)
        · exact ⟨Or.inl rfl, hb⟩
        · exact ⟨Or.inr h1, h2⟩
      · rintro ⟨rfl | h1, h2⟩
        · exact Or.inl ⟨x.2, h2, rfl⟩
        · exact Or.inr ⟨h1, h2⟩

theorem gp_card_prod {α β : Type} {S : α → Prop} {T : β → Prop} {j k : Nat} (hs : gp_card S j)
    (ht : gp_card T k) : gp_card (fun x : α × β => S x.1 ∧ T x.2) (j * k) := by
  obtain ⟨l, hn, hl, hm⟩ := hs
  obtain ⟨l', hn', hl', hm'⟩ := ht
  obtain ⟨m, h1, h2, h3⟩ := gp_prod_list l' hn' l hn
  refine ⟨m, h1, by rw [h2, hl, hl'], fun x => ?_⟩
  rw [h3 x, hm, hm']

/-- classes of one size: their size divides -/
theorem gp_part {α : Type} {m : Nat} (R : α → α → Prop) (hr : ∀ x, R x x) (hsy : ∀ x y, R x y → R y x)
    (htr : ∀ x y z, R x y → R y z → R x z) :
    ∀ (k : Nat) (S : α → Prop), gp_card S k → (∀ x, S x → gp_card (fun y => S y ∧ R x y) m) → m ∣ k := by
  intro k
  induction k using Nat.strongRecOn with
  | _ k ih =>
    intro S hS hc
    by_cases h0 : ∃ x, S x
    · obtain ⟨x, hx⟩ := h0
      obtain ⟨j, hj⟩ := gp_card_sub (S := fun y => S y ∧ ¬ R x y) hS (fun _ h => h.1)
      have hk : m + j = k := gp_card_uniq (gp_card_add (hc x hx) hj) hS
      have hm : 0 < m := by
        rcases Nat.eq_zero_or_pos m with e | e
        · exfalso
          obtain ⟨l, _, hl, hm⟩ := hc x hx
          have := (hm x).2 ⟨hx, hr x⟩
          rw [e] at hl
          rw [List.length_eq_zero_iff.1 hl] at this
          exact absurd this (List.not_mem_nil)
        · exact e
      have := ih j (by omega) (fun y => S y ∧ ¬ R x y) hj (by
        intro y hy
        refine gp_card_congr (hc y hy.1) (fun z => ?_)
        constructor
        · rintro ⟨h1, h2⟩
          exact ⟨⟨h1, fun h3 => hy.2 (htr _ _ _ h3 (hsy _ _ h2))⟩, h2⟩
        · rintro ⟨h1, h2⟩
          exact ⟨h1.1, h2⟩)
      rw [← hk]
      exact (Nat.dvd_add_right (Nat.dvd_refl m)).2 this
    · obtain ⟨l, _, hl, hm⟩ := hS
      have : l = [] := by
        cases l with
        | nil => rfl
        | cons a l => exact absurd ⟨a, (hm a).1 (List.mem_cons_self ..)⟩ h0
      rw [← hl, this]
      exact Nat.dvd_zero m

/-- fibres of one size -/
theorem gp_fib {α β : Type} {m : Nat} (f : α → β) : ∀ (T : List β), T.Nodup → ∀ (S : α → Prop) (k : Nat), gp_card S k →
    (∀ x, S x → f x ∈ T) → (∀ y, y ∈ T → gp_card (fun x => S x ∧ f x = y) m) → k = T.length * m := by
  intro T
  induction T with
  | nil =>
    intro _ S k hS hT _
    obtain ⟨l, _, hl, hm⟩ := hS
    have : l = [] := by
      cases l with
      | nil => rfl
      | cons a l => exact absurd (hT a ((hm a).1 (List.mem_cons_self ..))) (List.not_mem_nil)
    rw [← hl, this]
    simp
  | cons y T ih =>
    intro hn S k hS hT hc
    rw [List.nodup_cons] at hn
    obtain ⟨j, hj⟩ := gp_card_sub (S := fun x => S x ∧ ¬ f x = y) hS (fun _ h => h.1)
    have hk : m + j = k := gp_card_uniq (gp_card_add (hc y (List.mem_cons_self ..)) hj) hS
    have := ih hn.2 (fun x => S x ∧ ¬ f x = y) j hj (by
      intro x hx
      rcases List.mem_cons.1 (hT x hx.1) with e | e
      · exact absurd e hx.2
      · exact e) (by
      intro z hz
      refine gp_card_congr (hc z (List.mem_cons_of_mem _ hz)) (fun x => ?_)
      constructor
      · rintro ⟨h1, h2⟩
        refine ⟨⟨h1, fun h3 => ?_⟩, h2⟩
        rw [← h3, h2] at hn
        exact hn.1 hz
      · rintro ⟨h1, h2⟩
        exact ⟨h1.1, h2⟩)
    rw [List.length_cons, Nat.add_mul, Nat.one_mul, ← this]
    omega

end

section

abbrev gp_f := Nat → Nat

def gp_inv (a b : gp_f) : Prop := (∀ p, a (b p) = p) ∧ (∀ p, b (a p) = p)

def gp_sg (G : gp_f → Prop) : Prop :=
  G id ∧ (∀ a b, G a → G b → G (a ∘ b)) ∧ (∀ a, G a → ∃ b, G b ∧ gp_inv a b)

def gp_sym (D : List Nat) (a : gp_f) : Prop := (∃ b, gp_inv a b) ∧ ∀ p, p ∉ D → a p = p

def gp_sub (H K : gp_f → Prop) : Prop := ∀ a, H a → K a
def gp_lt (H K : gp_f → Prop) : Prop := gp_sub H K ∧ ∃ a, K a ∧ ¬ H a

theorem gp_inv_symm {a b : gp_f} (h : gp_inv a b) : gp_inv b a := ⟨h.2, h.1⟩

theorem gp_inv_uniq {a b c : gp_f} (h : gp_inv a b) (h' : gp_inv a c) : b = c := by
  funext p
  have h1 := h.1 p
  have h2 := h'.2 (b p)
  rw [h1] at h2
  exact h2.symm

theorem gp_inv_inj {a b : gp_f} (h : gp_inv a b) {x y : Nat} (e : a x = a y) : x = y := by
  have := congrArg b e
  rw [h.2, h.2] at this
  exact this

theorem gp_inv_comp {a b c d : gp_f} (h : gp_inv a b) (h' : gp_inv c d) : gp_inv (a ∘ c) (d ∘ b) := by
  constructor
  · intro p
    show a (c (d (b p))) = p
    rw [h'.1, h.1]
  · intro p
    show d (b (a (c p))) = p
    rw [h.2, h'.2]

theorem gp_inv_id : gp_inv id id := ⟨fun _ => rfl, fun _ => rfl⟩

theorem gp_inv_eq {a b : gp_f} (h : gp_inv a b) : a ∘ b = id := funext h.1
theorem gp_inv_eq' {a b : gp_f} (h : gp_inv a b) : b ∘ a = id := funext h.2

theorem gp_sg_inv {G : gp_f → Prop} (hG : gp_sg G) {a b : gp_f} (ha : G a) (h : gp_inv a b) : G b := by
  obtain ⟨c, hc, hi⟩ := hG.2.2 a ha
  rw [gp_inv_uniq h hi]
  exact hc

theorem gp_sym_inv {D : List Nat} {a b : gp_f} (ha : gp_sym D a) (h : gp_inv a b) : gp_sym D b := by
  refine ⟨⟨a, gp_inv_symm h⟩, fun p hp => ?_⟩
  have := ha.2 p hp
  have h2 := h.2 p
  rw [this] at h2
  exact h2

theorem gp_sym_sg (D : List Nat) : gp_sg (gp_sym D) := by
  refine ⟨⟨⟨id, gp_inv_id⟩, fun _ _ => rfl⟩, ?_, ?_⟩
  · rintro a b ⟨⟨a', ha⟩, ha2⟩ ⟨⟨b', hb⟩, hb2⟩
    refine ⟨⟨b' ∘ a', gp_inv_comp ha hb⟩, fun p hp => ?_⟩
    show a (b p) = p
    rw [hb2 p hp, ha2 p hp]
  · rintro a ⟨⟨b, hb⟩, ha2⟩
    exact ⟨b, gp_sym_inv ⟨⟨b, hb⟩, ha2⟩ hb, hb⟩

theorem gp_sym_mem {D : List Nat} {a : gp_f} (ha : gp_sym D a) {p : Nat} (hp : p ∈ D) : a p ∈ D := by
  by_cases h : a p ∈ D
  · exact h
  · exfalso
    obtain ⟨⟨b, hb⟩, h2⟩ := ha
    have := gp_inv_inj hb (h2 _ h)
    rw [this] at h
    exact h hp

theorem gp_sym_mem' {D : List Nat} {a : gp_f} (ha : gp_sym D a) {p : Nat} (hp : a p ∈ D) : p ∈ D := by
  by_cases h : p ∈ D
  · exact h
  · rw [ha.2 p h] at hp
    exact hp

theorem gp_sym_mono {D D' : List Nat} (h : ∀ x, x ∈ D → x ∈ D') {a : gp_f} (ha : gp_sym D a) : gp_sym D' a :=
  ⟨ha.1, fun p hp => ha.2 p (fun h' => hp (h p h'))⟩

/-- the exchange of two -/
def gp_sw (a b : Nat) : gp_f := fun p => if p = a then b else if p = b then a else p

theorem gp_sw_a (a b : Nat) : gp_sw a b a = b := by simp [gp_sw]
theorem gp_sw_b (a b : Nat) : gp_sw a b b = a := by
  unfold gp_sw
  by_cases h : b = a
  · simp [h]
  · simp [h]
theorem gp_sw_n {a b p : Nat} (h1 : p ≠ a) (h2 : p ≠ b) : gp_sw a b p = p := by simp [gp_sw, h1, h2]

theorem gp_sw_self (a b p : Nat) : gp_sw a b (gp_sw a b p) = p := by
  by_cases h1 : p = a
  · rw [h1, gp_sw_a, gp_sw_b]
  · by_cases h2 : p = b
    · rw [h2, gp_sw_b, gp_sw_a]
    · rw [gp_sw_n h1 h2, gp_sw_n h1 h2]

theorem gp_sw_inv (a b : Nat) : gp_inv (gp_sw a b) (gp_sw a b) := ⟨gp_sw_self a b, gp_sw_self a b⟩

theorem gp_sw_sym {D : List Nat} {a b : Nat} (ha : a ∈ D) (hb : b ∈ D) : gp_sym D (gp_sw a b) := by
  refine ⟨⟨_, gp_sw_inv a b⟩, fun p hp => gp_sw_n ?_ ?_⟩
  · intro e; rw [e] at hp; exact hp ha
  · intro e; rw [e] at hp; exact hp hb

def gp_fac : Nat → Nat
  | 0 => 1
  | n + 1 => (n + 1) * gp_fac n

theorem gp_fac_pos (n : Nat) : 0 < gp_fac n := by
  induction n with
  | zero => exact Nat.one_pos
  | succ n ih => exact Nat.mul_pos (Nat.succ_pos n) ih

theorem gp_fac_le {m n : Nat} (h : m ≤ n) : gp_fac m ≤ gp_fac n := by
  induction n with
  | zero =>
    have : m = 0 := by omega
    rw [this]
    exact Nat.le_refl _
  | succ n ih =>
    by_cases e : m = n + 1
    · rw [e]; exact Nat.le_refl _
    · exact Nat.le_trans (ih (by omega)) (Nat.le_mul_of_pos_left _ (Nat.succ_pos n))

/-- how many put a set's places to each other -/
theorem gp_card_sym : ∀ (D : List Nat), D.Nodup → gp_card (gp_sym D) (gp_fac D.length) := by
  intro D
  induction D with
  | nil =>
    intro _
    refine ⟨[id], ?_, rfl, fun x => ?_⟩
    · simp
    · rw [List.mem_singleton]
      constructor
      · intro e; rw [e]; exact (gp_sym_sg []).1
      · intro h; funext p; exact h.2 p (List.not_mem_nil)
  | cons a D ih =>
    intro hn
    have hn2 := List.nodup_cons.1 hn
    have hD : gp_card (fun b => b ∈ a :: D) (D.length + 1) := ⟨a :: D, hn, rfl, fun _ => Iff.rfl⟩
    have hp := gp_card_prod hD (ih hn2.2)
    have hi := gp_card_img hp (fun x : Nat × gp_f => gp_sw a x.1 ∘ x.2) (by
      rintro ⟨b, t⟩ ⟨c, u⟩ h1 h2 e
      have e' : ∀ p, gp_sw a b (t p) = gp_sw a c (u p) := fun p => congrFun e p
      have hta : t a = a := h1.2.2 a hn2.1
      have hua : u a = a := h2.2.2 a hn2.1
      have hbc : b = c := by
        have := e' a
        rw [hta, hua, gp_sw_a, gp_sw_a] at this
        exact this
      subst hbc
      have htu : t = u := by
        funext p
        have := congrArg (gp_sw a b) (e' p)
        rw [gp_sw_self, gp_sw_self] at this
        exact this
      rw [htu])
    refine gp_card_congr hi (fun s => ?_)
    constructor
    · rintro ⟨⟨b, t⟩, ⟨hb, ht⟩, rfl⟩
      have h1 : gp_sym (a :: D) (gp_sw a b) := gp_sw_sym (List.mem_cons_self ..) hb
      have h2 : gp_sym (a :: D) t := gp_sym_mono (fun x hx => List.mem_cons_of_mem _ hx) ht
      exact (gp_sym_sg (a :: D)).2.1 _ _ h1 h2
    · intro hs
      have hb : s a ∈ a :: D := gp_sym_mem hs (List.mem_cons_self ..)
      have h1 : gp_sym (a :: D) (gp_sw a (s a)) := gp_sw_sym (List.mem_cons_self ..) hb
      have h2 := (gp_sym_sg (a :: D)).2.1 _ _ h1 hs
      refine ⟨(s a, gp_sw a (s a) ∘ s), ⟨hb, h2.1, fun p hp => ?_⟩, ?_⟩
      · by_cases e : p = a
        · rw [e]
          exact gp_sw_b a (s a)
        · refine h2.2 p (fun h => ?_)
          rcases List.mem_cons.1 h with h | h
          · exact e h
          · exact hp h
      · funext p
        exact gp_sw_self a (s a) (s p)

end
