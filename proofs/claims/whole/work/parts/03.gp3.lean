/-! Three places put round; the classes that such give; groups that keep classes. Pure. -/
section

def gp_c3 (a b c : Nat) : gp_f := fun p => if p = a then b else if p = b then c else if p = c then a else p
def gp_d3 (a b c : Nat) : Prop := a ≠ b ∧ b ≠ c ∧ a ≠ c

theorem gp_c3_a (a b c : Nat) : gp_c3 a b c a = b := by simp [gp_c3]
theorem gp_c3_b {a b c : Nat} (h : gp_d3 a b c) : gp_c3 a b c b = c := by
  have := h.1
  simp [gp_c3, Ne.symm this]
theorem gp_c3_c {a b c : Nat} (h : gp_d3 a b c) : gp_c3 a b c c = a := by
  have h1 := h.2.1
  have h2 := h.2.2
  simp [gp_c3, Ne.symm h1, Ne.symm h2]
theorem gp_c3_n {a b c p : Nat} (h1 : p ≠ a) (h2 : p ≠ b) (h3 : p ≠ c) : gp_c3 a b c p = p := by
  simp [gp_c3, h1, h2, h3]

theorem gp_c3_rot {a b c : Nat} (h : gp_d3 a b c) : gp_c3 a b c = gp_c3 b c a := by
  funext p
  obtain ⟨h1, h2, h3⟩ := h
  by_cases ea : p = a
  · subst ea
    rw [gp_c3_a, gp_c3_c ⟨h2, Ne.symm h3, Ne.symm h1⟩]
  · by_cases eb : p = b
    · subst eb
      rw [gp_c3_a, gp_c3_b ⟨h1, h2, h3⟩]
    · by_cases ec : p = c
      · subst ec
        rw [gp_c3_c ⟨h1, h2, h3⟩, gp_c3_b ⟨h2, Ne.symm h3, Ne.symm h1⟩]
      · rw [gp_c3_n ea eb ec, gp_c3_n eb ec ea]

theorem gp_c3_back {a b c : Nat} (h : gp_d3 a b c) (p : Nat) : gp_c3 a c b (gp_c3 a b c p) = p := by
  have h' : gp_d3 a c b := ⟨h.2.2, Ne.symm h.2.1, h.1⟩
  by_cases ea : p = a
  · rw [ea, gp_c3_a, gp_c3_c h']
  · by_cases eb : p = b
    · rw [eb, gp_c3_b h, gp_c3_b h']
    · by_cases ec : p = c
      · rw [ec, gp_c3_c h, gp_c3_a]
      · rw [gp_c3_n ea eb ec, gp_c3_n ea ec eb]

theorem gp_c3_inv {a b c : Nat} (h : gp_d3 a b c) : gp_inv (gp_c3 a b c) (gp_c3 a c b) :=
  ⟨gp_c3_back (b := c) (c := b) ⟨h.2.2, Ne.symm h.2.1, h.1⟩, gp_c3_back h⟩

theorem gp_d3_map {g g' : gp_f} (hi : gp_inv g g') {a b c : Nat} (h : gp_d3 a b c) : gp_d3 (g a) (g b) (g c) :=
  ⟨fun e => h.1 (gp_inv_inj hi e), fun e => h.2.1 (gp_inv_inj hi e), fun e => h.2.2 (gp_inv_inj hi e)⟩

theorem gp_c3_conj {g g' : gp_f} (hi : gp_inv g g') {a b c : Nat} (h : gp_d3 a b c) :
    g ∘ gp_c3 a b c ∘ g' = gp_c3 (g a) (g b) (g c) := by
  have key : ∀ q, g (gp_c3 a b c q) = gp_c3 (g a) (g b) (g c) (g q) := by
    intro q
    by_cases ea : q = a
    · rw [ea, gp_c3_a, gp_c3_a]
    · by_cases eb : q = b
      · rw [eb, gp_c3_b h, gp_c3_b (gp_d3_map hi h)]
      · by_cases ec : q = c
        · rw [ec, gp_c3_c h, gp_c3_c (gp_d3_map hi h)]
        · rw [gp_c3_n ea eb ec, gp_c3_n (fun e => ea (gp_inv_inj hi e)) (fun e => eb (gp_inv_inj hi e))
            (fun e => ec (gp_inv_inj hi e))]
  funext p
  have := key (g' p)
  rw [hi.1] at this
  exact this

theorem gp_conj_mem {H : gp_f → Prop} (hH : gp_sg H) {g g' x : gp_f} (hg : H g) (hx : H x) (hi : gp_inv g g') :
    H (g ∘ x ∘ g') := hH.2.1 _ _ hg (hH.2.1 _ _ hx (gp_sg_inv hH hg hi))

def gp_R (H : gp_f → Prop) (a b : Nat) : Prop := a = b ∨ ∃ c, gp_d3 a b c ∧ H (gp_c3 a b c)

theorem gp_R_refl {H : gp_f → Prop} (a : Nat) : gp_R H a a := Or.inl rfl

theorem gp_c3_sw {H : gp_f → Prop} (hH : gp_sg H) {a b c : Nat} (h : gp_d3 a b c) (hc : H (gp_c3 a b c)) :
    gp_d3 b a c ∧ H (gp_c3 b a c) := by
  have h1 := gp_sg_inv hH hc (gp_c3_inv h)
  have h2 : gp_d3 a c b := ⟨h.2.2, Ne.symm h.2.1, h.1⟩
  have h3 : gp_d3 c b a := ⟨Ne.symm h.2.1, Ne.symm h.1, Ne.symm h.2.2⟩
  rw [gp_c3_rot h2, gp_c3_rot h3] at h1
  exact ⟨⟨Ne.symm h.1, h.2.2, h.2.1⟩, h1⟩

theorem gp_R_symm {H : gp_f → Prop} (hH : gp_sg H) {a b : Nat} (h : gp_R H a b) : gp_R H b a := by
  rcases h with e | ⟨c, h, hc⟩
  · exact Or.inl e.symm
  · exact Or.inr ⟨c, gp_c3_sw hH h hc⟩

theorem gp_R_trans {H : gp_f → Prop} (hH : gp_sg H) {a b d : Nat} (h1 : gp_R H a b) (h2 : gp_R H b d) : gp_R H a d := by
  rcases h1 with e | ⟨c, h, hc⟩
  · rw [e]; exact h2
  · rcases h2 with e | ⟨e, h', hc'⟩
    · rw [← e]; exact Or.inr ⟨c, h, hc⟩
    · by_cases ead : a = d
      · exact Or.inl ead
      · by_cases eae : a = e
        · subst eae
          rw [gp_c3_rot h'] at hc'
          have h3 : gp_d3 d a b := ⟨Ne.symm ead, h.1, Ne.symm h'.1⟩
          exact Or.inr ⟨b, gp_c3_sw hH h3 hc'⟩
        · have hi := gp_c3_inv h'
          have hm := gp_conj_mem hH hc' hc hi
          rw [gp_c3_conj hi h] at hm
          have hd := gp_d3_map hi h
          rw [gp_c3_n h.1 ead eae, gp_c3_a] at hm hd
          exact Or.inr ⟨_, hd, hm⟩

theorem gp_R_map {H : gp_f → Prop} (hH : gp_sg H) {g : gp_f} (hg : H g) {a b : Nat} (h : gp_R H a b) :
    gp_R H (g a) (g b) := by
  obtain ⟨g', _, hi⟩ := hH.2.2 g hg
  rcases h with e | ⟨c, h, hc⟩
  · rw [e]; exact Or.inl rfl
  · refine Or.inr ⟨g c, gp_d3_map hi h, ?_⟩
    rw [← gp_c3_conj hi h]
    exact gp_conj_mem hH hg hc hi

def gp_full (H : gp_f → Prop) (D : List Nat) : Prop :=
  ∀ a b c, a ∈ D → b ∈ D → c ∈ D → gp_d3 a b c → H (gp_c3 a b c)

theorem gp_c3_in {H : gp_f → Prop} {D : List Nat} (hs : gp_sub H (gp_sym D)) {a b c : Nat} (h : gp_d3 a b c)
    (hc : H (gp_c3 a b c)) : a ∈ D ∧ b ∈ D ∧ c ∈ D := by
  have h2 := (hs _ hc).2
  refine ⟨?_, ?_, ?_⟩
  · by_cases hd : a ∈ D
    · exact hd
    · have := h2 a hd
      rw [gp_c3_a] at this
      exact absurd this.symm h.1
  · by_cases hd : b ∈ D
    · exact hd
    · have := h2 b hd
      rw [gp_c3_b h] at this
      exact absurd this.symm h.2.1
  · by_cases hd : c ∈ D
    · exact hd
    · have := h2 c hd
      rw [gp_c3_c h] at this
      exact absurd this h.2.2

theorem gp_tot_full {H : gp_f → Prop} {D : List Nat} (hH : gp_sg H) (hs : gp_sub H (gp_sym D))
    (ht : ∀ a b, a ∈ D → b ∈ D → gp_R H a b) : gp_full H D := by
  intro a b c ha hb hc hd
  rcases ht a b ha hb with e | ⟨x, h1, hx⟩
  · exact absurd e hd.1
  · have hxD := (gp_c3_in hs h1 hx).2.2
    by_cases exc : x = c
    · rw [← exc]; exact hx
    · rcases ht x c hxD hc with e | ⟨y, h2, hy⟩
      · exact absurd e exc
      · by_cases eya : y = a
        · subst eya
          -- q back: x -> y -> c
          have hi := gp_inv_symm (gp_c3_inv h2)
          have hq := gp_sg_inv hH hy (gp_c3_inv h2)
          have hm := gp_conj_mem hH hq hx hi
          rw [gp_c3_conj hi h1] at hm
          have h2' : gp_d3 x y c := ⟨h2.2.2, Ne.symm h2.2.1, h2.1⟩
          rw [gp_c3_b h2', gp_c3_n h1.2.1 (Ne.symm hd.1) hd.2.1, gp_c3_a] at hm
          have h3 : gp_d3 c b y := ⟨Ne.symm hd.2.1, Ne.symm hd.1, Ne.symm hd.2.2⟩
          have h4 := gp_sg_inv hH hm (gp_c3_inv h3)
          rw [gp_c3_rot ⟨Ne.symm hd.2.2, hd.1, Ne.symm hd.2.1⟩] at h4
          exact h4
        · by_cases eyb : y = b
          · subst eyb
            have hi := gp_inv_symm (gp_c3_inv h2)
            have hq := gp_sg_inv hH hy (gp_c3_inv h2)
            have hm := gp_conj_mem hH hq hx hi
            rw [gp_c3_conj hi h1] at hm
            have h2' : gp_d3 x y c := ⟨h2.2.2, Ne.symm h2.2.1, h2.1⟩
            rw [gp_c3_b h2', gp_c3_n h1.2.2 hd.1 hd.2.2, gp_c3_a] at hm
            have h3 : gp_d3 a c y := ⟨hd.2.2, Ne.symm hd.2.1, hd.1⟩
            exact gp_sg_inv hH hm (gp_c3_inv h3)
          · have hi := gp_c3_inv h2
            have hm := gp_conj_mem hH hy hx hi
            rw [gp_c3_conj hi h1, gp_c3_n h1.2.2 hd.2.2 (Ne.symm eya), gp_c3_n h1.2.1 hd.2.1 (Ne.symm eyb), gp_c3_a] at hm
            exact hm

/-! ## what a group does on a part of the places -/
noncomputable def gp_res (p : Nat → Prop) (g : gp_f) : gp_f := fun x => @ite _ (p x) (Classical.propDecidable _) (g x) x

theorem gp_res_p {p : Nat → Prop} {g : gp_f} {x : Nat} (h : p x) : gp_res p g x = g x := by
  unfold gp_res; rw [if_pos h]
theorem gp_res_n {p : Nat → Prop} {g : gp_f} {x : Nat} (h : ¬ p x) : gp_res p g x = x := by
  unfold gp_res; rw [if_neg h]

theorem gp_res_hom {p : Nat → Prop} {H : gp_f → Prop} (hp : ∀ g, H g → ∀ x, p x → p (g x)) : gp_hom (gp_res p) H := by
  constructor
  · funext x
    by_cases h : p x
    · rw [gp_res_p h]
    · rw [gp_res_n h]; rfl
  · intro a b _ hb
    funext x
    show _ = gp_res p a (gp_res p b x)
    by_cases h : p x
    · rw [gp_res_p h, gp_res_p h, gp_res_p (hp b hb x h)]
      rfl
    · rw [gp_res_n h, gp_res_n h, gp_res_n h]

theorem gp_im_sym {φ : gp_f → gp_f} {H : gp_f → Prop} {E : List Nat} (hH : gp_sg H) (hh : gp_hom φ H)
    (hf : ∀ g, H g → ∀ x, x ∉ E → φ g x = x) : gp_sub (gp_im φ H) (gp_sym E) := by
  rintro _ ⟨a, ha, rfl⟩
  obtain ⟨b, hb, hi⟩ := hH.2.2 a ha
  exact ⟨⟨φ b, gp_hom_inv hh ha hb hi⟩, hf a ha⟩

theorem gp_bd_split {D D1 D2 : List Nat} {p : Nat → Prop} {H : gp_f → Prop} {L1 L2 : Nat} (hH : gp_sg H)
    (hs : gp_sub H (gp_sym D)) (hp : ∀ g, H g → ∀ x, p x → p (g x)) (h1 : ∀ x, x ∈ D → p x → x ∈ D1)
    (h2 : ∀ x, x ∈ D → ¬ p x → x ∈ D2) (b1 : ∀ K, gp_sg K → gp_sub K (gp_sym D1) → gp_bd K L1)
    (b2 : ∀ K, gp_sg K → gp_sub K (gp_sym D2) → gp_bd K L2) : gp_bd H (L1 + L2) := by
  have hh := gp_res_hom hp
  refine gp_bd_hom hh (b1 _ (gp_im_sg hh hH) ?_) (b2 _ (gp_ker_sg hh hH) ?_)
  · refine gp_im_sym hH hh (fun g hg x hx => ?_)
    by_cases h : p x
    · rw [gp_res_p h]
      exact (hs g hg).2 x (fun hd => hx (h1 x hd h))
    · exact gp_res_n h
  · rintro g ⟨hg, e⟩
    refine ⟨(hs g hg).1, fun x hx => ?_⟩
    by_cases h : p x
    · have := congrFun e x
      rw [gp_res_p h] at this
      exact this
    · exact (hs g hg).2 x (fun hd => hx (h2 x hd h))

/-- each class kept: class by class -/
theorem gp_bd_cls {D : List Nat} {rep : Nat → Nat} {L : Nat} : ∀ (T : List Nat) (K : gp_f → Prop), gp_sg K →
    gp_sub K (gp_sym D) → (∀ g, K g → ∀ x, rep (g x) = rep x) → (∀ g, K g → ∀ x, x ∈ D → rep x ∉ T → g x = x) →
    (∀ y, y ∈ T → ∀ K', gp_sg K' → gp_sub K' (gp_sym (D.filter (fun x => decide (rep x = y)))) → gp_bd K' L) →
    gp_bd K (T.length * L) := by
  intro T
  induction T with
  | nil =>
    intro K hK hs hr hf _
    have : gp_bd K 0 := gp_bd_triv (fun g hg => by
      funext x
      by_cases h : x ∈ D
      · exact hf g hg x h (List.not_mem_nil)
      · exact (hs g hg).2 x h)
    simpa using this
  | cons y T ih =>
    intro K hK hs hr hf hb
    have hh : gp_hom (gp_res (fun x => rep x = y)) K := gp_res_hom (fun g hg x hx => by rw [hr g hg x]; exact hx)
    have e : (y :: T).length * L = L + T.length * L := by
      rw [List.length_cons, Nat.add_mul, Nat.one_mul, Nat.add_comm]
    rw [e]
    refine gp_bd_hom hh (hb y (List.mem_cons_self ..) _ (gp_im_sg hh hK) ?_) (ih _ (gp_ker_sg hh hK) ?_ ?_ ?_ ?_)
    · refine gp_im_sym hK hh (fun g hg x hx => ?_)
      by_cases h : rep x = y
      · rw [gp_res_p (p := fun x => rep x = y) h]
        refine (hs g hg).2 x (fun hd => hx ?_)
        rw [List.mem_filter]
        exact ⟨hd, decide_eq_true h⟩
      · exact gp_res_n (p := fun x => rep x = y) h
    · exact fun g hg => hs g hg.1
    · exact fun g hg => hr g hg.1
    · intro g hg x hx hT
      by_cases h : rep x = y
      · have := congrFun hg.2 x
        rw [gp_res_p (p := fun x => rep x = y) h] at this
        exact this
      · refine hf g hg.1 x hx (fun hm => ?_)
        rcases List.mem_cons.1 hm with h' | h'
        · exact h h'
        · exact hT h'
    · exact fun z hz => hb z (List.mem_cons_of_mem _ hz)

/-- the classes moved as wholes, and then each kept -/
theorem gp_bd_blocks {D T : List Nat} {R : Nat → Nat → Prop} {rep : Nat → Nat} {H : gp_f → Prop} {L M : Nat}
    (hH : gp_sg H) (hs : gp_sub H (gp_sym D)) (hR : ∀ g, H g → ∀ x y, x ∈ D → y ∈ D → R x y → R (g x) (g y))
    (r1 : ∀ x y, x ∈ D → y ∈ D → R x y → rep x = rep y) (r2 : ∀ x, x ∈ D → R x (rep x) ∧ rep x ∈ D)
    (hT : ∀ x, x ∈ T ↔ x ∈ D ∧ rep x = x)
    (bT : ∀ K, gp_sg K → gp_sub K (gp_sym T) → gp_bd K M)
    (bC : ∀ y, y ∈ T → ∀ K', gp_sg K' → gp_sub K' (gp_sym (D.filter (fun x => decide (rep x = y)))) → gp_bd K' L) :
    gp_bd H (M + T.length * L) := by
  have rr : ∀ x, x ∈ D → rep x ∈ T := fun x hx =>
    (hT _).2 ⟨(r2 x hx).2, (r1 x (rep x) hx (r2 x hx).2 (r2 x hx).1).symm⟩
  have hgD : ∀ g, H g → ∀ x, x ∈ D → g x ∈ D := fun g hg x hx => gp_sym_mem (hs g hg) hx
  have hrg : ∀ g, H g → ∀ x, x ∈ D → rep (g x) = rep (g (rep x)) := fun g hg x hx =>
    r1 _ _ (hgD g hg x hx) (hgD g hg _ (r2 x hx).2) (hR g hg x _ hx (r2 x hx).2 (r2 x hx).1)
  have hh : gp_hom (fun g => gp_res (fun x => x ∈ T) (fun x => rep (g x))) H := by
    constructor
    · funext x
      by_cases h : x ∈ T
      · show gp_res (fun x => x ∈ T) (fun x => rep (id x)) x = id x
        rw [gp_res_p (p := fun x => x ∈ T) h]
        exact ((hT x).1 h).2
      · exact gp_res_n (p := fun x => x ∈ T) h
    · intro a b ha hb
      funext x
      show gp_res (fun x => x ∈ T) (fun x => rep ((a ∘ b) x)) x =
        gp_res (fun x => x ∈ T) (fun x => rep (a x)) (gp_res (fun x => x ∈ T) (fun x => rep (b x)) x)
      by_cases h : x ∈ T
      · have hx := ((hT x).1 h).1
        rw [gp_res_p (p := fun x => x ∈ T) h, gp_res_p (p := fun x => x ∈ T) h, gp_res_p (p := fun x => x ∈ T) (rr _ (hgD b hb x hx))]
        exact hrg a ha (b x) (hgD b hb x hx)
      · rw [gp_res_n (p := fun x => x ∈ T) h, gp_res_n (p := fun x => x ∈ T) h, gp_res_n (p := fun x => x ∈ T) h]
  refine gp_bd_hom hh (bT _ (gp_im_sg hh hH) ?_) (gp_bd_cls T _ (gp_ker_sg hh hH) ?_ ?_ ?_ bC)
  · refine gp_im_sym hH hh (fun g hg x hx => ?_)
    exact gp_res_n (p := fun x => x ∈ T) hx
  · exact fun g hg => hs g hg.1
  · rintro g ⟨hg, e⟩ x
    by_cases hx : x ∈ D
    · rw [hrg g hg x hx]
      have := congrFun e (rep x)
      have h2 : gp_res (fun x => x ∈ T) (fun x => rep (g x)) (rep x) = rep x := this
      rw [gp_res_p (p := fun x => x ∈ T) (rr x hx)] at h2
      exact h2
    · rw [(hs g hg).2 x hx]
  · intro g _ x hx hn
    exact absurd (rr x hx) hn

end
