/-! The whole chain: links 0 .. n - 1; sifting; what level and spread are. Pure. -/
section

def ch_D (n i : Nat) : List Nat := List.range' i (n - i)

theorem ch_D_nodup (n i : Nat) : (ch_D n i).Nodup := List.nodup_range' (step := 1)

theorem ch_D_mem {n i p : Nat} : p ∈ ch_D n i ↔ i ≤ p ∧ p < n := by
  unfold ch_D
  rw [List.mem_range'_1]
  omega

theorem ch_D_len (n i : Nat) : (ch_D n i).length = n - i := by
  unfold ch_D
  rw [List.length_range']

def ch_G (gs : List gp_f) : gp_f → Prop := gp_gen (fun g => g ∈ gs)

/-- the links: each as a link is, its pairs looked at are of the link below, the rows below are of it -/
def ch_ok (n : Nat) (gs : Nat → List gp_f) (pr : Nat → Nat → Nat) (sn : Nat → Nat) (sp : Nat → Nat → Nat)
    (wb : Nat → Nat → gp_f) : Prop :=
  gs n = [] ∧ ∀ i, i < n → lk_ok i (ch_D n i) (gs i) (sn i) (sp i) (wb i) ∧
    lk_pairs (gs i) (pr i) (sn i) (sp i) (wb i) (ch_G (gs (i + 1))) ∧
    (∀ g, g ∈ gs (i + 1) → ch_G (gs i) g) ∧ (∀ k g, (gs i)[k]? = some g → pr i k ≤ sn i)

/-- all pairs of a link are done -/
def ch_done (gs : Nat → List gp_f) (pr : Nat → Nat → Nat) (sn : Nat → Nat) (i : Nat) : Prop :=
  ∀ k g, (gs i)[k]? = some g → sn i ≤ pr i k

section
variable {n : Nat} {gs : Nat → List gp_f} {pr : Nat → Nat → Nat} {sn : Nat → Nat} {sp : Nat → Nat → Nat}
  {wb : Nat → Nat → gp_f}

theorem ch_sym (h : ch_ok n gs pr sn sp wb) {i : Nat} (hi : i ≤ n) : ∀ g, g ∈ gs i → gp_sym (ch_D n i) g := by
  intro g hg
  rcases Nat.lt_or_eq_of_le hi with h1 | h1
  · exact (h.2 i h1).1.1 g hg
  · rw [h1, h.1] at hg
    exact absurd hg (List.not_mem_nil)

theorem ch_sg (h : ch_ok n gs pr sn sp wb) {i : Nat} (hi : i ≤ n) : gp_sg (ch_G (gs i)) :=
  gp_gen_sg (ch_D_nodup n i) (ch_sym h hi)

theorem ch_in_sym (h : ch_ok n gs pr sn sp wb) {i : Nat} (hi : i ≤ n) : gp_sub (ch_G (gs i)) (gp_sym (ch_D n i)) :=
  gp_gen_in (gp_sym_sg _) (ch_sym h hi)

theorem ch_fix (h : ch_ok n gs pr sn sp wb) {i : Nat} (hi : i ≤ n) {x : gp_f} (hx : ch_G (gs i) x) {j : Nat} (hj : j < i) :
    x j = j := (ch_in_sym h hi x hx).2 j (fun hm => by have := ch_D_mem.1 hm; omega)

theorem ch_stab (h : ch_ok n gs pr sn sp wb) {i : Nat} (hi : i < n) (hd : ch_done gs pr sn i) :
    ∀ x, ch_G (gs (i + 1)) x ↔ ch_G (gs i) x ∧ x i = i := by
  have hl := h.2 i hi
  refine lk_stab hl.1 hl.2.1 hd (ch_sg h hi) (fun g hg => ⟨hl.2.2.1 g hg, ?_⟩)
  exact (ch_sym h hi g hg).2 i (fun hm => by have := ch_D_mem.1 hm; omega)

/-- from link b on all is done: link i is the part of link b that leaves b .. i - 1 -/
theorem ch_part (h : ch_ok n gs pr sn sp wb) {b : Nat} (hd : ∀ i, b ≤ i → i < n → ch_done gs pr sn i) :
    ∀ i, b ≤ i → i ≤ n → ∀ x, ch_G (gs i) x ↔ ch_G (gs b) x ∧ ∀ j, b ≤ j → j < i → x j = j := by
  intro i
  induction i with
  | zero =>
    intro hb _ x
    have : b = 0 := by omega
    subst this
    exact ⟨fun hx => ⟨hx, fun j _ hj => absurd hj (Nat.not_lt_zero _)⟩, fun hx => hx.1⟩
  | succ i ih =>
    intro hb hi x
    rcases Nat.lt_or_eq_of_le hb with h1 | h1
    · rw [ch_stab h (by omega) (hd i (by omega) (by omega)) x, ih (by omega) (by omega) x]
      constructor
      · rintro ⟨⟨h2, h3⟩, h4⟩
        refine ⟨h2, fun j hj1 hj2 => ?_⟩
        rcases Nat.lt_or_eq_of_le (Nat.le_of_lt_succ hj2) with h5 | h5
        · exact h3 j hj1 h5
        · rw [h5]; exact h4
      · rintro ⟨h2, h3⟩
        exact ⟨⟨h2, fun j hj1 hj2 => h3 j hj1 (by omega)⟩, h3 i (by omega) (by omega)⟩
    · subst h1
      exact ⟨fun hx => ⟨hx, fun j hj1 hj2 => by omega⟩, fun hx => hx.1⟩

/-- where the link's part puts the link's place -/
theorem ch_spread (h : ch_ok n gs pr sn sp wb) {i : Nat} (hi : i < n) (hd : ch_done gs pr sn i) :
    ∀ q, (∃ s, s < sn i ∧ sp i s = q) ↔ ∃ x, ch_G (gs i) x ∧ x i = q := by
  have hl := h.2 i hi
  exact lk_spread (ch_D_nodup n i) hl.1 hl.2.1 hd (ch_sg h hi)

/-- one more way back: still behind it something of link b -/
theorem ch_undo (h : ch_ok n gs pr sn sp wb) {b i t : Nat} (hb : b ≤ i) (hi : i < n) (ht : t < sn i) {u : gp_f}
    (hu : ch_G (gs b) u) : ch_G (gs b) (wb i t ∘ u) := by
  have hl := (h.2 i hi).1.2.2.2.2.1 t ht
  have hsub : ∀ k, b + k ≤ n → gp_sub (ch_G (gs (b + k))) (ch_G (gs b)) := by
    intro k
    induction k with
    | zero => intro _ x hx; exact hx
    | succ k ih =>
      intro hk x hx
      exact ih (by omega) x (gp_gen_sub (h.2 (b + k) (by omega)).2.2.1 x hx)
  obtain ⟨k, rfl⟩ : ∃ k, i = b + k := ⟨i - b, by omega⟩
  exact gp_gen_comp (hsub k (by omega) _ hl.1) hu

/-- a row that leaves the chain at i, behind u: nothing of link b goes with it further -/
theorem ch_fails (h : ch_ok n gs pr sn sp wb) {b : Nat} (hd : ∀ i, b ≤ i → i < n → ch_done gs pr sn i) {i : Nat} (hb : b ≤ i)
    (hi : i < n) {u σ : gp_f} (hu : ch_G (gs b) u) (hf : ∀ j, b ≤ j → j < i → u (σ j) = j)
    (hn : ¬ ∃ s, s < sn i ∧ sp i s = u (σ i)) : ¬ ∃ x, ch_G (gs b) x ∧ ∀ j, b ≤ j → j ≤ i → x j = σ j := by
  rintro ⟨x, hx, he⟩
  apply hn
  rw [ch_spread h hi (hd i hb hi)]
  refine ⟨u ∘ x, ?_, ?_⟩
  · rw [ch_part h hd i hb (Nat.le_of_lt hi)]
    refine ⟨gp_gen_comp hu hx, fun j hj1 hj2 => ?_⟩
    show u (x j) = j
    rw [he j hj1 (by omega), hf j hj1 hj2]
  · show u (x i) = u (σ i)
    rw [he i hb (Nat.le_refl i)]

/-- and something of link b goes with it that far -/
theorem ch_goes (h : ch_ok n gs pr sn sp wb) {b i : Nat} (hb : b ≤ n) {u σ : gp_f} (hu : ch_G (gs b) u)
    (hf : ∀ j, b ≤ j → j < i → u (σ j) = j) : ∃ x, ch_G (gs b) x ∧ ∀ j, b ≤ j → j < i → x j = σ j := by
  obtain ⟨x, hx, hi⟩ := (ch_sg h hb).2.2 u hu
  refine ⟨x, hx, fun j hj1 hj2 => ?_⟩
  have := hi.2 (σ j)
  rw [hf j hj1 hj2] at this
  exact this

end

/-- the level of a row: how far something of the group goes with it -/
def ch_lv (G : gp_f → Prop) (n : Nat) (σ : gp_f) (L : Nat) : Prop :=
  L ≤ n ∧ (∃ x, G x ∧ ∀ j, j < L → x j = σ j) ∧ (L < n → ¬ ∃ x, G x ∧ ∀ j, j ≤ L → x j = σ j)

theorem ch_lv_uniq {G : gp_f → Prop} {n : Nat} {σ : gp_f} {L M : Nat} (h1 : ch_lv G n σ L) (h2 : ch_lv G n σ M) : L = M := by
  rcases Nat.lt_trichotomy L M with h | h | h
  · exfalso
    obtain ⟨x, hx, he⟩ := h2.2.1
    exact h1.2.2 (by have := h2.1; omega) ⟨x, hx, fun j hj => he j (by omega)⟩
  · exact h
  · exfalso
    obtain ⟨x, hx, he⟩ := h1.2.1
    exact h2.2.2 (by have := h1.1; omega) ⟨x, hx, fun j hj => he j (by omega)⟩

/-- how many places the spread of i has -/
def ch_sz (G : gp_f → Prop) (i : Nat) (k : Nat) : Prop :=
  gp_card (fun q => ∃ x, G x ∧ (∀ j, j < i → x j = j) ∧ x i = q) k

section
variable {n : Nat} {gs : Nat → List gp_f} {pr : Nat → Nat → Nat} {sn : Nat → Nat} {sp : Nat → Nat → Nat}
  {wb : Nat → Nat → gp_f}

theorem ch_size (h : ch_ok n gs pr sn sp wb) (hd : ∀ i, i < n → ch_done gs pr sn i) {i : Nat} (hi : i < n) :
    ch_sz (ch_G (gs 0)) i (sn i) := by
  have hl := (h.2 i hi).1
  refine ⟨(List.range (sn i)).map (sp i), ?_, ?_, fun q => ?_⟩
  · refine gp_nodup_map List.nodup_range (fun s t hs ht e => ?_)
    exact hl.2.2.2.2.2 s t (List.mem_range.1 hs) (List.mem_range.1 ht) e
  · rw [List.length_map, List.length_range]
  · rw [List.mem_map]
    have h1 := ch_spread h hi (hd i hi) q
    have h2 := ch_part h (b := 0) (fun j _ hj => hd j hj) i (Nat.zero_le i) (Nat.le_of_lt hi)
    constructor
    · rintro ⟨s, hs, e⟩
      obtain ⟨x, hx, hxi⟩ := h1.1 ⟨s, List.mem_range.1 hs, e⟩
      obtain ⟨h3, h4⟩ := (h2 x).1 hx
      exact ⟨x, h3, fun j hj => h4 j (Nat.zero_le j) hj, hxi⟩
    · rintro ⟨x, hx, h3, h4⟩
      obtain ⟨s, hs, e⟩ := h1.2 ⟨x, (h2 x).2 ⟨hx, fun j _ hj => h3 j hj⟩, h4⟩
      exact ⟨s, List.mem_range.2 hs, e⟩

end

end
