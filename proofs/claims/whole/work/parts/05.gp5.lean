/-! The longest chain of groups on n places: at most 3 n / 2 steps, n up to 23. Pure. -/
section

def gp_g (n : Nat) : Nat :=
  [0, 0, 1, 2, 4, 5, 7, 8, 10, 11, 13, 14, 16, 17, 19, 20, 24, 25, 27, 28, 30, 31, 33, 34].getD n 0

theorem gp_sw_comm (a b : Nat) : gp_sw a b = gp_sw b a := by
  funext p
  by_cases h1 : p = a
  · rw [h1, gp_sw_a, gp_sw_b]
  · by_cases h2 : p = b
    · rw [h2, gp_sw_a, gp_sw_b]
    · rw [gp_sw_n h1 h2, gp_sw_n h2 h1]

theorem gp_sw_share {a b c : Nat} (h : gp_d3 a b c) : gp_sw a b ∘ gp_sw b c = gp_c3 a b c := by
  funext p
  show gp_sw a b (gp_sw b c p) = _
  by_cases ea : p = a
  · rw [ea, gp_c3_a, gp_sw_n h.1 h.2.2, gp_sw_a]
  · by_cases eb : p = b
    · rw [eb, gp_c3_b h, gp_sw_a, gp_sw_n (Ne.symm h.2.2) (Ne.symm h.2.1)]
    · by_cases ec : p = c
      · rw [ec, gp_c3_c h, gp_sw_b, gp_sw_b]
      · rw [gp_c3_n ea eb ec, gp_sw_n eb ec, gp_sw_n ea eb]

theorem gp_full_two {H : gp_f → Prop} {D : List Nat} (hH : gp_sg H) (hf : gp_full H D) {a b c d : Nat} (ha : a ∈ D)
    (hb : b ∈ D) (hc : c ∈ D) (hd : d ∈ D) (hab : a ≠ b) (hcd : c ≠ d) : H (gp_sw a b ∘ gp_sw c d) := by
  have share : ∀ x y z, x ∈ D → y ∈ D → z ∈ D → gp_d3 x y z → H (gp_sw x y ∘ gp_sw y z) := by
    intro x y z hx hy hz h
    rw [gp_sw_share h]
    exact hf x y z hx hy hz h
  have hid : ∀ x y, H (gp_sw x y ∘ gp_sw x y) := by
    intro x y
    have : gp_sw x y ∘ gp_sw x y = id := gp_inv_eq (gp_sw_inv x y)
    rw [this]
    exact hH.1
  by_cases e1 : a = c
  · subst e1
    by_cases e2 : b = d
    · subst e2
      exact hid a b
    · rw [gp_sw_comm a b]
      exact share b a d hb ha hd ⟨Ne.symm hab, hcd, e2⟩
  · by_cases e2 : a = d
    · subst e2
      by_cases e3 : b = c
      · subst e3
        rw [gp_sw_comm b a]
        exact hid a b
      · rw [gp_sw_comm a b, gp_sw_comm c a]
        exact share b a c hb ha hc ⟨Ne.symm hab, e1, e3⟩
    · by_cases e3 : b = c
      · subst e3
        exact share a b d ha hb hd ⟨hab, hcd, e2⟩
      · by_cases e4 : b = d
        · subst e4
          rw [gp_sw_comm c b]
          exact share a b c ha hb hc ⟨hab, e3, e1⟩
        · have h1 := share a b c ha hb hc ⟨hab, e3, e1⟩
          have h2 := share b c d hb hc hd ⟨e3, hcd, e4⟩
          have h3 := hH.2.1 _ _ h1 h2
          have : (gp_sw a b ∘ gp_sw b c) ∘ gp_sw b c ∘ gp_sw c d = gp_sw a b ∘ gp_sw c d := by
            funext p
            show gp_sw a b (gp_sw b c (gp_sw b c (gp_sw c d p))) = gp_sw a b (gp_sw c d p)
            rw [gp_sw_self]
          rw [this] at h3
          exact h3

theorem gp_full_half {H : gp_f → Prop} {D : List Nat} (hH : gp_sg H) (hf : gp_full H D) : ∀ (E : List Nat),
    E.Nodup → (∀ x, x ∈ E → x ∈ D) → ∀ s, gp_sym E s →
      H s ∨ ∀ a b, a ∈ D → b ∈ D → a ≠ b → H (gp_sw a b ∘ s) := by
  intro E
  induction E with
  | nil =>
    intro _ _ s hs
    left
    have : s = id := by
      funext p
      exact hs.2 p (List.not_mem_nil)
    rw [this]
    exact hH.1
  | cons x E ih =>
    intro hn hE s hs
    have hn2 := List.nodup_cons.1 hn
    have hxD := hE x (List.mem_cons_self ..)
    have hsx : s x ∈ x :: E := gp_sym_mem hs (List.mem_cons_self ..)
    have h1 : gp_sym (x :: E) (gp_sw x (s x)) := gp_sw_sym (List.mem_cons_self ..) hsx
    have h2 := (gp_sym_sg (x :: E)).2.1 _ _ h1 hs
    have h3 : gp_sym E (gp_sw x (s x) ∘ s) := by
      refine ⟨h2.1, fun p hp => ?_⟩
      by_cases e : p = x
      · rw [e]
        exact gp_sw_b x (s x)
      · refine h2.2 p (fun h => ?_)
        rcases List.mem_cons.1 h with h | h
        · exact e h
        · exact hp h
    have hback : gp_sw x (s x) ∘ gp_sw x (s x) ∘ s = s := by
      funext p
      exact gp_sw_self x (s x) (s p)
    by_cases e : s x = x
    · have e2 : gp_sw x (s x) ∘ s = s := by
        funext p
        show gp_sw x (s x) (s p) = s p
        rw [e]
        by_cases e3 : s p = x
        · rw [e3, gp_sw_a]
        · rw [gp_sw_n e3 e3]
      rw [e2] at h3
      exact ih hn2.2 (fun y hy => hE y (List.mem_cons_of_mem _ hy)) s h3
    · rcases ih hn2.2 (fun y hy => hE y (List.mem_cons_of_mem _ hy)) _ h3 with h | h
      · right
        intro a b ha hb hab
        have h4 := hH.2.1 _ _ (gp_full_two hH hf ha hb hxD (hE _ hsx) hab (Ne.symm e)) h
        have : (gp_sw a b ∘ gp_sw x (s x)) ∘ gp_sw x (s x) ∘ s = gp_sw a b ∘ s := by
          funext p
          show gp_sw a b (gp_sw x (s x) (gp_sw x (s x) (s p))) = gp_sw a b (s p)
          rw [gp_sw_self]
        rw [this] at h4
        exact h4
      · left
        have h4 := h x (s x) hxD (hE _ hsx) (Ne.symm e)
        rw [hback] at h4
        exact h4

/-- what is larger than a full group is all -/
theorem gp_full_up {K H : gp_f → Prop} {D : List Nat} (hn : D.Nodup) (hK : gp_sg K) (hH : gp_sg H) (hf : gp_full K D)
    (hKH : gp_sub K H) (hHD : gp_sub H (gp_sym D)) {x : gp_f} (hx : H x) (hnx : ¬ K x) : ∀ s, gp_sym D s → H s := by
  intro s hs
  have hx2 := gp_full_half hK hf D hn (fun _ h => h) x (hHD x hx)
  rcases gp_full_half hK hf D hn (fun _ h => h) s hs with h | h
  · exact hKH s h
  · rcases hx2 with h' | h'
    · exact absurd h' hnx
    · -- some two places
      by_cases hp : ∃ a b, a ∈ D ∧ b ∈ D ∧ a ≠ b
      · obtain ⟨a, b, ha, hb, hab⟩ := hp
        obtain ⟨x', hx', hxi⟩ := hH.2.2 x hx
        have h1 := hH.2.1 _ _ (hKH _ (h' a b ha hb hab)) hx'
        have e1 : (gp_sw a b ∘ x) ∘ x' = gp_sw a b := by
          funext p
          show gp_sw a b (x (x' p)) = _
          rw [hxi.1]
        rw [e1] at h1
        have h2 := hH.2.1 _ _ h1 (hKH _ (h a b ha hb hab))
        have e2 : gp_sw a b ∘ gp_sw a b ∘ s = s := by
          funext p
          exact gp_sw_self a b (s p)
        rw [e2] at h2
        exact h2
      · have : s = id := by
          funext p
          by_cases hd : p ∈ D
          · by_cases e : s p = p
            · exact e
            · exact absurd ⟨s p, p, gp_sym_mem hs hd, hd, e⟩ hp
          · exact hs.2 p hd
        rw [this]
        exact hH.1

/-- a full group that isn't all has no exchange, and half of all -/
theorem gp_full_no {K : gp_f → Prop} {D : List Nat} (hn : D.Nodup) (hK : gp_sg K) (hf : gp_full K D)
    (hne : ¬ ∀ s, gp_sym D s → K s) {a b : Nat} (ha : a ∈ D) (hb : b ∈ D) (hab : a ≠ b) : ¬ K (gp_sw a b) := by
  intro hk
  apply hne
  intro s hs
  rcases gp_full_half hK hf D hn (fun _ h => h) s hs with h | h
  · exact h
  · have h2 := hK.2.1 _ _ hk (h a b ha hb hab)
    have e2 : gp_sw a b ∘ gp_sw a b ∘ s = s := by
      funext p
      exact gp_sw_self a b (s p)
    rw [e2] at h2
    exact h2

theorem gp_full_card {K : gp_f → Prop} {D : List Nat} {k : Nat} (hn : D.Nodup) (hK : gp_sg K) (hf : gp_full K D)
    (hs : gp_sub K (gp_sym D)) (hne : ¬ ∀ s, gp_sym D s → K s) {a b : Nat} (ha : a ∈ D) (hb : b ∈ D) (hab : a ≠ b)
    (hk : gp_card K k) : 2 * k = gp_fac D.length := by
  have hno := gp_full_no hn hK hf hne ha hb hab
  have hsw : gp_sym D (gp_sw a b) := gp_sw_sym ha hb
  have h1 : gp_card (fun s => gp_sym D s ∧ K s) k := gp_card_congr hk (fun s => ⟨fun h => ⟨hs s h, h⟩, fun h => h.2⟩)
  have h2 : gp_card (fun s => gp_sym D s ∧ ¬ K s) k := by
    refine gp_card_congr (gp_card_img hk (fun s => gp_sw a b ∘ s) ?_) (fun s => ?_)
    · intro x y _ _ e
      funext p
      have : gp_sw a b (x p) = gp_sw a b (y p) := congrFun e p
      exact gp_inv_inj (gp_sw_inv a b) this
    · constructor
      · rintro ⟨x, hx, rfl⟩
        refine ⟨(gp_sym_sg D).2.1 _ _ hsw (hs x hx), fun h => hno ?_⟩
        obtain ⟨x', hx', hxi⟩ := hK.2.2 x hx
        have h3 := hK.2.1 _ _ h hx'
        have e1 : (gp_sw a b ∘ x) ∘ x' = gp_sw a b := by
          funext p
          show gp_sw a b (x (x' p)) = _
          rw [hxi.1]
        rw [e1] at h3
        exact h3
      · rintro ⟨hsD, hsn⟩
        rcases gp_full_half hK hf D hn (fun _ h => h) s hsD with h | h
        · exact absurd h hsn
        · refine ⟨gp_sw a b ∘ s, h a b ha hb hab, ?_⟩
          funext p
          exact gp_sw_self a b (s p)
  have := gp_card_uniq (gp_card_add h1 h2) (gp_card_sym D hn)
  omega

/-- the first of the list that goes with a place -/
noncomputable def gp_rep (D : List Nat) (R : Nat → Nat → Prop) (x : Nat) : Nat :=
  (D.find? (fun y => @decide (R x y) (Classical.propDecidable _))).getD x

theorem gp_rep_in {D : List Nat} {R : Nat → Nat → Prop} (hr : ∀ x, R x x) {x : Nat} (hx : x ∈ D) :
    R x (gp_rep D R x) ∧ gp_rep D R x ∈ D := by
  unfold gp_rep
  cases h : D.find? (fun y => @decide (R x y) (Classical.propDecidable _)) with
  | none =>
    exfalso
    have := List.find?_eq_none.1 h x hx
    exact this (by simp [hr x])
  | some y =>
    have h1 := List.find?_some h
    have h2 := List.mem_of_find?_eq_some h
    simp at h1
    exact ⟨h1, h2⟩

theorem gp_rep_eq {D : List Nat} {R : Nat → Nat → Prop} (hr : ∀ x, R x x) (hsy : ∀ x y, R x y → R y x)
    (htr : ∀ x y z, R x y → R y z → R x z) {x y : Nat} (hx : x ∈ D) (hxy : R x y) :
    gp_rep D R x = gp_rep D R y := by
  have e : (fun z => @decide (R x z) (Classical.propDecidable _)) = (fun z => @decide (R y z) (Classical.propDecidable _)) := by
    funext z
    have : R x z ↔ R y z := ⟨fun h => htr _ _ _ (hsy _ _ hxy) h, fun h => htr _ _ _ hxy h⟩
    simp [this]
  unfold gp_rep
  rw [e]
  cases h : D.find? (fun z => @decide (R y z) (Classical.propDecidable _)) with
  | none =>
    exfalso
    have := List.find?_eq_none.1 h x hx
    exact this (by simp [hsy _ _ hxy])
  | some z => rfl

end
