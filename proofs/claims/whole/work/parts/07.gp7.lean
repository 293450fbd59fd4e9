/-! What comes of some maps one behind the other; one link of the chain; the lemma of Schreier. Pure. -/
section

def gp_w (l : List gp_f) : gp_f := l.foldr (fun a b => a ∘ b) id

def gp_gen (T : gp_f → Prop) (h : gp_f) : Prop := ∃ l : List gp_f, (∀ x, x ∈ l → T x) ∧ gp_w l = h

theorem gp_gen_id {T : gp_f → Prop} : gp_gen T id := ⟨[], fun x hx => absurd hx (List.not_mem_nil), rfl⟩

theorem gp_gen_mem {T : gp_f → Prop} {t : gp_f} (h : T t) : gp_gen T t :=
  ⟨[t], fun x hx => by rw [List.mem_singleton.1 hx]; exact h, rfl⟩

theorem gp_w_append (l l' : List gp_f) : gp_w (l ++ l') = gp_w l ∘ gp_w l' := by
  induction l with
  | nil => rfl
  | cons a l ih =>
    show a ∘ gp_w (l ++ l') = (a ∘ gp_w l) ∘ gp_w l'
    rw [ih]
    rfl

theorem gp_gen_comp {T : gp_f → Prop} {a b : gp_f} (ha : gp_gen T a) (hb : gp_gen T b) : gp_gen T (a ∘ b) := by
  obtain ⟨l, h1, rfl⟩ := ha
  obtain ⟨l', h2, rfl⟩ := hb
  refine ⟨l ++ l', fun x hx => ?_, gp_w_append l l'⟩
  rcases List.mem_append.1 hx with h | h
  · exact h1 x h
  · exact h2 x h

/-- it is the least that holds id and goes on along each -/
theorem gp_gen_min {T M : gp_f → Prop} (h0 : M id) (hs : ∀ t h, T t → M h → M (t ∘ h)) : ∀ h, gp_gen T h → M h := by
  rintro h ⟨l, hl, rfl⟩
  induction l with
  | nil => exact h0
  | cons a l ih =>
    exact hs a (gp_w l) (hl a (List.mem_cons_self ..)) (ih (fun x hx => hl x (List.mem_cons_of_mem _ hx)))

theorem gp_gen_sub {T T' : gp_f → Prop} (h : ∀ t, T t → gp_gen T' t) : gp_sub (gp_gen T) (gp_gen T') :=
  gp_gen_min gp_gen_id (fun _ _ ht hh => gp_gen_comp (h _ ht) hh)

theorem gp_gen_mono {T T' : gp_f → Prop} (h : ∀ t, T t → T' t) : gp_sub (gp_gen T) (gp_gen T') :=
  gp_gen_sub (fun t ht => gp_gen_mem (h t ht))

theorem gp_gen_in {T M : gp_f → Prop} (hM : gp_sg M) (h : ∀ t, T t → M t) : gp_sub (gp_gen T) M :=
  gp_gen_min hM.1 (fun t _ ht hh => hM.2.1 t _ (h t ht) hh)

theorem gp_gen_sg {T : gp_f → Prop} {D : List Nat} (hn : D.Nodup) (hT : ∀ t, T t → gp_sym D t) : gp_sg (gp_gen T) := by
  refine ⟨gp_gen_id, fun a b => gp_gen_comp, fun h hh => ?_⟩
  have hs : gp_sub (gp_gen T) (gp_sym D) := gp_gen_in (gp_sym_sg D) hT
  obtain ⟨h', hi⟩ := (hs h hh).1
  obtain ⟨k, hk⟩ := gp_card_sub (gp_card_sym D hn) hs
  have himg := gp_card_img hk (fun x => h ∘ x) (by
    intro x y _ _ e
    funext p
    exact gp_inv_inj hi (congrFun e p))
  have : ∃ x, gp_gen T x ∧ h ∘ x = id := by
    by_cases hc : ∃ x, gp_gen T x ∧ h ∘ x = id
    · exact hc
    · exfalso
      have := gp_card_lt himg hk (by rintro _ ⟨x, hx, rfl⟩; exact gp_gen_comp hh hx) id gp_gen_id hc
      omega
  obtain ⟨x, hx, e⟩ := this
  refine ⟨x, hx, fun p => congrFun e p, fun p => ?_⟩
  have h1 : h (x (h p)) = h p := congrFun e (h p)
  exact gp_inv_inj hi h1

/-- one link: rows that generate, places of the spread, a way back from each -/
def lk_ok (i : Nat) (D : List Nat) (gs : List gp_f) (sn : Nat) (sp : Nat → Nat) (wb : Nat → gp_f) : Prop :=
  (∀ g, g ∈ gs → gp_sym D g) ∧ 0 < sn ∧ sp 0 = i ∧ wb 0 = id ∧
  (∀ s, s < sn → gp_gen (fun g => g ∈ gs) (wb s) ∧ wb s (sp s) = i) ∧
  (∀ s t, s < sn → t < sn → sp s = sp t → s = t)

/-- the pairs that were looked at: what they give is of the part below -/
def lk_pairs (gs : List gp_f) (pr : Nat → Nat) (sn : Nat) (sp : Nat → Nat) (wb : Nat → gp_f) (K : gp_f → Prop) : Prop :=
  ∀ k g, gs[k]? = some g → ∀ s, s < pr k → ∃ t, t < sn ∧ sp t = g (sp s) ∧ ∃ u, K u ∧ u ∘ wb s = wb t ∘ g

theorem lk_schreier {i : Nat} {D : List Nat} {gs : List gp_f} {sn : Nat} {sp : Nat → Nat} {wb : Nat → gp_f}
    {pr : Nat → Nat} {K : gp_f → Prop} (h : lk_ok i D gs sn sp wb) (hp : lk_pairs gs pr sn sp wb K)
    (hd : ∀ k g, gs[k]? = some g → sn ≤ pr k) (hK : gp_sg K) :
    ∀ x, gp_gen (fun g => g ∈ gs) x → ∃ t, t < sn ∧ sp t = x i ∧ K (wb t ∘ x) := by
  obtain ⟨_, h1, h2, h3, _, _⟩ := h
  refine gp_gen_min ⟨0, h1, h2, ?_⟩ ?_
  · rw [h3]; exact hK.1
  · rintro g x hg ⟨s, hs, e, hx⟩
    obtain ⟨k, hk⟩ := List.getElem?_of_mem hg
    obtain ⟨t, ht, e2, u, hu, e3⟩ := hp k g hk s (Nat.lt_of_lt_of_le hs (hd k g hk))
    refine ⟨t, ht, ?_, ?_⟩
    · rw [e2, e]; rfl
    · have : wb t ∘ g ∘ x = u ∘ (wb s ∘ x) := by
        funext p
        have := congrFun e3 (x p)
        exact this.symm
      rw [this]
      exact hK.2.1 _ _ hu hx

/-- with all pairs done, the part below is the part that leaves the place -/
theorem lk_stab {i : Nat} {D : List Nat} {gs gs' : List gp_f} {sn : Nat} {sp : Nat → Nat} {wb : Nat → gp_f}
    {pr : Nat → Nat} (h : lk_ok i D gs sn sp wb) (hp : lk_pairs gs pr sn sp wb (gp_gen (fun g => g ∈ gs')))
    (hd : ∀ k g, gs[k]? = some g → sn ≤ pr k) (hK : gp_sg (gp_gen (fun g => g ∈ gs')))
    (hin : ∀ g, g ∈ gs' → gp_gen (fun g => g ∈ gs) g ∧ g i = i) :
    ∀ x, gp_gen (fun g => g ∈ gs') x ↔ gp_gen (fun g => g ∈ gs) x ∧ x i = i := by
  intro x
  constructor
  · intro hx
    refine ⟨gp_gen_sub (fun g hg => (hin g hg).1) x hx, ?_⟩
    refine gp_gen_min (M := fun x => x i = i) rfl ?_ x hx
    intro t y ht hy
    show t (y i) = i
    rw [hy, (hin t ht).2]
  · rintro ⟨hx, hxi⟩
    obtain ⟨t, ht, e, hk⟩ := lk_schreier h hp hd hK x hx
    have : t = 0 := h.2.2.2.2.2 t 0 ht h.2.1 (by rw [e, hxi, h.2.2.1])
    rw [this, h.2.2.2.1] at hk
    exact hk

/-- the spread is where the link's group puts the link's place -/
theorem lk_spread {i : Nat} {D : List Nat} {gs : List gp_f} {sn : Nat} {sp : Nat → Nat} {wb : Nat → gp_f}
    {pr : Nat → Nat} {K : gp_f → Prop} (hn : D.Nodup) (h : lk_ok i D gs sn sp wb) (hp : lk_pairs gs pr sn sp wb K)
    (hd : ∀ k g, gs[k]? = some g → sn ≤ pr k) (hK : gp_sg K) :
    ∀ q, (∃ s, s < sn ∧ sp s = q) ↔ ∃ x, gp_gen (fun g => g ∈ gs) x ∧ x i = q := by
  intro q
  constructor
  · rintro ⟨s, hs, rfl⟩
    obtain ⟨h1, h2⟩ := h.2.2.2.2.1 s hs
    obtain ⟨y, hy, hi⟩ := (gp_gen_sg hn h.1).2.2 _ h1
    refine ⟨y, hy, ?_⟩
    have := hi.2 (sp s)
    rw [h2] at this
    exact this
  · rintro ⟨x, hx, rfl⟩
    obtain ⟨t, ht, e, _⟩ := lk_schreier h hp hd hK x hx
    exact ⟨t, ht, e⟩

end
