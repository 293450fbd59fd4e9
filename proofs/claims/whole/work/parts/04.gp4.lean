/-! Groups in which no three places are put round alone: how large at most. Pure. -/
section

def gp_no3 (H : gp_f → Prop) : Prop := ∀ a b c, gp_d3 a b c → ¬ H (gp_c3 a b c)

def gp_base (H : gp_f → Prop) (B : List Nat) : Prop := ∀ h, H h → (∀ b, b ∈ B → h b = b) → h = id

theorem gp_min_base {H : gp_f → Prop} {D : List Nat} (hs : gp_sub H (gp_sym D)) (hn : D.Nodup) :
    ∃ B : List Nat, B.Nodup ∧ (∀ x, x ∈ B → x ∈ D) ∧ gp_base H B ∧
      ∀ a, a ∈ B → ∃ h, H h ∧ h ≠ id ∧ ∀ b, b ∈ B → b ≠ a → h b = b := by
  have main : ∀ (k : Nat) (B : List Nat), B.length = k → B.Nodup → (∀ x, x ∈ B → x ∈ D) → gp_base H B →
      ∃ B : List Nat, B.Nodup ∧ (∀ x, x ∈ B → x ∈ D) ∧ gp_base H B ∧
      ∀ a, a ∈ B → ∃ h, H h ∧ h ≠ id ∧ ∀ b, b ∈ B → b ≠ a → h b = b := by
    intro k
    induction k with
    | zero =>
      intro B hB h1 h2 h3
      refine ⟨B, h1, h2, h3, fun a ha => ?_⟩
      rw [List.length_eq_zero_iff.1 hB] at ha
      exact absurd ha (List.not_mem_nil)
    | succ k ih =>
      intro B hB h1 h2 h3
      by_cases hc : ∃ a, a ∈ B ∧ gp_base H (B.erase a)
      · obtain ⟨a, ha, hb⟩ := hc
        refine ih (B.erase a) ?_ (h1.erase a) (fun x hx => h2 x (List.mem_of_mem_erase hx)) hb
        rw [List.length_erase_of_mem ha, hB]
        rfl
      · refine ⟨B, h1, h2, h3, fun a ha => ?_⟩
        by_cases hh : ∃ h, H h ∧ h ≠ id ∧ ∀ b, b ∈ B → b ≠ a → h b = b
        · exact hh
        · exfalso
          apply hc
          refine ⟨a, ha, fun h hh' hf => ?_⟩
          by_cases e : h = id
          · exact e
          · exact absurd ⟨h, hh', e, fun b hb hba => hf b ((h1.mem_erase_iff).2 ⟨hba, hb⟩)⟩ hh
  refine main D.length D rfl hn (fun _ h => h) (fun h hh hf => ?_)
  funext x
  by_cases hx : x ∈ D
  · exact hf x hx
  · exact (hs h hh).2 x hx

/-- two maps that meet in one place only give three places put round -/
theorem gp_comm3 {B : List Nat} {g g' h h' : gp_f} {a : Nat} (hg : gp_inv g g') (hh : gp_inv h h') (ha : a ∈ B)
    (gB : ∀ x, x ∉ B → g x = x) (hB : ∀ x, x ∈ B → x ≠ a → h x = x) (ga : g a ≠ a) (ha' : h a ≠ a) :
    gp_d3 a (g a) (h a) ∧ g ∘ h ∘ g' ∘ h' = gp_c3 a (g a) (h a) := by
  have gmem : ∀ x, x ∈ B → g x ∈ B := by
    intro x hx
    by_cases e : g x ∈ B
    · exact e
    · have := gp_inv_inj hg (gB _ e)
      rw [this] at e
      exact absurd hx e
  have g'mem : ∀ x, x ∈ B → g' x ∈ B := by
    intro x hx
    by_cases e : g' x ∈ B
    · exact e
    · have := gB _ e
      rw [hg.1] at this
      rw [← this] at e
      exact absurd hx e
  have g'B : ∀ x, x ∉ B → g' x = x := by
    intro x hx
    have := hg.2 x
    rw [gB x hx] at this
    exact this
  have hna : h a ∉ B := by
    intro e
    have := hB _ e ha'
    exact ha' (gp_inv_inj hh this)
  have h'B : ∀ x, x ∈ B → x ≠ a → h' x = x := by
    intro x hx hxa
    have := hh.2 x
    rw [hB x hx hxa] at this
    exact this
  have h'a : h' a ∉ B := by
    intro e
    have e2 : h' a ≠ a := by
      intro e3
      have := hh.1 a
      rw [e3] at this
      exact ha' this
    have := hB _ e e2
    rw [hh.1] at this
    exact e2 this.symm
  have hd : gp_d3 a (g a) (h a) := ⟨Ne.symm ga, fun e => hna (e ▸ gmem a ha), Ne.symm ha'⟩
  refine ⟨hd, ?_⟩
  funext p
  show g (h (g' (h' p))) = _
  by_cases ea : p = a
  · rw [ea, gp_c3_a, g'B _ h'a, hh.1]
  · by_cases eb : p = g a
    · rw [eb, gp_c3_b hd, h'B _ (gmem a ha) ga, hg.2, gB _ hna]
    · by_cases ec : p = h a
      · have e1 : g' a ≠ a := by
          intro e
          have := hg.1 a
          rw [e] at this
          exact ga this
        rw [ec, gp_c3_c hd, hh.2, hB _ (g'mem a ha) e1, hg.1]
      · rw [gp_c3_n ea eb ec]
        have hqa : h' p ≠ a := by
          intro e
          apply ec
          rw [← e, hh.1]
        by_cases hq : h' p ∈ B
        · have e1 := hB _ hq hqa
          rw [hh.1] at e1
          rw [← e1] at hq ⊢
          have e2 : g' p ≠ a := by
            intro e
            apply eb
            rw [← e, hg.1]
          rw [hB _ (g'mem p hq) e2, hg.1]
        · rw [g'B _ hq, hh.1]
          apply gB
          intro hp
          have := h'B p hp ea
          rw [this] at hq
          exact hq hp

/-- a set of half the places on which the group does nothing alone -/
theorem gp_half {H : gp_f → Prop} {D : List Nat} (hH : gp_sg H) (hs : gp_sub H (gp_sym D)) (hn : D.Nodup)
    (h3 : gp_no3 H) : ∃ E : List Nat, E.Nodup ∧ (∀ x, x ∈ E → x ∈ D) ∧ (D.length + 1) / 2 ≤ E.length ∧
      ∀ h, H h → gp_sym E h → h = id := by
  obtain ⟨B, hB1, hB2, hB3, hB4⟩ := gp_min_base hs hn
  by_cases hc : 2 * B.length ≤ D.length
  · refine ⟨D.filter (fun x => decide (x ∉ B)), List.Nodup.sublist List.filter_sublist hn,
      fun x hx => (List.mem_filter.1 hx).1, ?_, fun h hh hf => ?_⟩
    · have h1 : gp_card (fun x => x ∈ D ∧ x ∈ B) B.length := ⟨B, hB1, rfl, fun x => ⟨fun h => ⟨hB2 x h, h⟩, fun h => h.2⟩⟩
      have h2 : gp_card (fun x => x ∈ D ∧ ¬ x ∈ B) (D.filter (fun x => decide (x ∉ B))).length :=
        ⟨_, List.Nodup.sublist List.filter_sublist hn, rfl, fun x => by simp [List.mem_filter]⟩
      have h4 : gp_card (fun x => x ∈ D) D.length := ⟨D, hn, rfl, fun _ => Iff.rfl⟩
      have := gp_card_uniq (gp_card_add h1 h2) h4
      omega
    · refine hB3 h hh (fun b hb => hf.2 b (fun hm => ?_))
      have := (List.mem_filter.1 hm).2
      simp at this
      exact this hb
  · refine ⟨B, hB1, hB2, by omega, fun g hg hf => ?_⟩
    by_cases e : g = id
    · exact e
    · exfalso
      have : ∃ a, g a ≠ a := by
        by_cases h : ∃ a, g a ≠ a
        · exact h
        · exfalso
          apply e
          funext x
          by_cases h' : g x = x
          · exact h'
          · exact absurd ⟨x, h'⟩ h
      obtain ⟨a, ga⟩ := this
      have haB : a ∈ B := by
        by_cases h : a ∈ B
        · exact h
        · exact absurd (hf.2 a h) ga
      obtain ⟨h, hh, hne, hfix⟩ := hB4 a haB
      have ha' : h a ≠ a := by
        intro e'
        apply hne
        refine hB3 h hh (fun b hb => ?_)
        by_cases hba : b = a
        · rw [hba]; exact e'
        · exact hfix b hb hba
      obtain ⟨g', hg', hgi⟩ := hH.2.2 g hg
      obtain ⟨h', hh', hhi⟩ := hH.2.2 h hh
      obtain ⟨hd, hx⟩ := gp_comm3 hgi hhi haB hf.2 hfix ga ha'
      apply h3 _ _ _ hd
      rw [← hx]
      exact hH.2.1 _ _ hg (hH.2.1 _ _ hh (hH.2.1 _ _ hg' hh'))

theorem gp_half_card {H : gp_f → Prop} {D : List Nat} {d : Nat} (hH : gp_sg H) (hs : gp_sub H (gp_sym D)) (hn : D.Nodup)
    (h3 : gp_no3 H) (hd : gp_card H d) : d * gp_fac ((D.length + 1) / 2) ≤ gp_fac D.length := by
  obtain ⟨E, hE1, hE2, hE3, hE4⟩ := gp_half hH hs hn h3
  have hp := gp_card_prod hd (gp_card_sym E hE1)
  have hi := gp_card_img hp (fun x : gp_f × gp_f => x.1 ∘ x.2) (by
    rintro ⟨a, s⟩ ⟨b, t⟩ ⟨ha, hsE⟩ ⟨hb, htE⟩ e
    have e' : ∀ p, a (s p) = b (t p) := fun p => congrFun e p
    obtain ⟨b', hb', hbi⟩ := hH.2.2 b hb
    obtain ⟨s', hs', hsi⟩ := (gp_sym_sg E).2.2 s hsE
    have h1 : b' ∘ a = t ∘ s' := by
      funext p
      show b' (a p) = t (s' p)
      have := e' (s' p)
      rw [hsi.1] at this
      rw [this, hbi.2]
    have h2 : b' ∘ a = id := hE4 _ (hH.2.1 _ _ hb' ha) (by
      rw [h1]; exact (gp_sym_sg E).2.1 _ _ htE hs')
    have hab : a = b := by
      funext p
      have := congrFun h2 p
      have h3 : b' (a p) = p := this
      have h4 := congrArg b h3
      rw [hbi.1] at h4
      exact h4
    have hst : s = t := by
      funext p
      have h5 := congrArg b' (e' p)
      rw [hab, hbi.2, hbi.2] at h5
      exact h5
    rw [hab, hst])
  have h1 := gp_card_le hi (gp_card_sym D hn) (by
    rintro _ ⟨⟨a, s⟩, ⟨ha, hsE⟩, rfl⟩
    exact (gp_sym_sg D).2.1 _ _ (hs a ha) (gp_sym_mono hE2 hsE))
  exact Nat.le_trans (Nat.mul_le_mul_left _ (gp_fac_le hE3)) h1

/-- the three: leave all, round, and round the other way -/
def gp_z3 (a b c : Nat) (x : gp_f) : Prop := x = id ∨ x = gp_c3 a b c ∨ x = gp_c3 a c b

theorem gp_c3_sq {a b c : Nat} (h : gp_d3 a b c) : gp_c3 a b c ∘ gp_c3 a b c = gp_c3 a c b := by
  have h' : gp_d3 a c b := ⟨h.2.2, Ne.symm h.2.1, h.1⟩
  funext p
  show gp_c3 a b c (gp_c3 a b c p) = _
  by_cases ea : p = a
  · rw [ea, gp_c3_a, gp_c3_a, gp_c3_b h]
  · by_cases eb : p = b
    · rw [eb, gp_c3_b h, gp_c3_c h, gp_c3_c h']
    · by_cases ec : p = c
      · rw [ec, gp_c3_c h, gp_c3_a, gp_c3_b h']
      · rw [gp_c3_n ea eb ec, gp_c3_n ea eb ec, gp_c3_n ea ec eb]

theorem gp_z3_sg {a b c : Nat} (h : gp_d3 a b c) : gp_sg (gp_z3 a b c) := by
  have h' : gp_d3 a c b := ⟨h.2.2, Ne.symm h.2.1, h.1⟩
  refine ⟨Or.inl rfl, ?_, ?_⟩
  · rintro x y (rfl | rfl | rfl) (rfl | rfl | rfl)
    · exact Or.inl rfl
    · exact Or.inr (Or.inl rfl)
    · exact Or.inr (Or.inr rfl)
    · exact Or.inr (Or.inl rfl)
    · exact Or.inr (Or.inr (gp_c3_sq h))
    · exact Or.inl (gp_inv_eq (gp_c3_inv h))
    · exact Or.inr (Or.inr rfl)
    · exact Or.inl (gp_inv_eq (gp_c3_inv h'))
    · exact Or.inr (Or.inl (gp_c3_sq h'))
  · rintro x (rfl | rfl | rfl)
    · exact ⟨id, Or.inl rfl, gp_inv_id⟩
    · exact ⟨_, Or.inr (Or.inr rfl), gp_c3_inv h⟩
    · exact ⟨_, Or.inr (Or.inl rfl), gp_c3_inv h'⟩

theorem gp_z3_card {a b c : Nat} (h : gp_d3 a b c) : gp_card (gp_z3 a b c) 3 := by
  have h' : gp_d3 a c b := ⟨h.2.2, Ne.symm h.2.1, h.1⟩
  refine ⟨[id, gp_c3 a b c, gp_c3 a c b], ?_, rfl, fun x => ?_⟩
  · have e1 : id ≠ gp_c3 a b c := by
      intro e
      have := congrFun e a
      rw [gp_c3_a] at this
      exact h.1 this
    have e2 : id ≠ gp_c3 a c b := by
      intro e
      have := congrFun e a
      rw [gp_c3_a] at this
      exact h.2.2 this
    have e3 : gp_c3 a b c ≠ gp_c3 a c b := by
      intro e
      have := congrFun e a
      rw [gp_c3_a, gp_c3_a] at this
      exact h.2.1 this
    simp [e1, e2, e3]
  · simp [gp_z3]

theorem gp_third {H : gp_f → Prop} {D : List Nat} {d : Nat} (hH : gp_sg H) (hs : gp_sub H (gp_sym D)) (hn : D.Nodup)
    (hl : 3 ≤ D.length) (h3 : gp_no3 H) (hd : gp_card H d) : 3 * d ∣ gp_fac D.length := by
  match D, hn, hl, hs with
  | a :: b :: c :: D', hn, _, hs =>
    have hd3 : gp_d3 a b c := by
      simp only [List.nodup_cons, List.mem_cons, not_or] at hn
      exact ⟨hn.1.1, hn.2.1.1, hn.1.2.1⟩
    have hZ := gp_z3_sg hd3
    have hZs : gp_sub (gp_z3 a b c) (gp_sym (a :: b :: c :: D')) := by
      have aux : ∀ x y z, gp_d3 x y z → x ∈ a :: b :: c :: D' → y ∈ a :: b :: c :: D' → z ∈ a :: b :: c :: D' →
          gp_sym (a :: b :: c :: D') (gp_c3 x y z) := by
        intro x y z hxyz hx hy hz
        refine ⟨⟨_, gp_c3_inv hxyz⟩, fun p hp => gp_c3_n ?_ ?_ ?_⟩
        · intro e; exact hp (e ▸ hx)
        · intro e; exact hp (e ▸ hy)
        · intro e; exact hp (e ▸ hz)
      rintro x (rfl | rfl | rfl)
      · exact (gp_sym_sg _).1
      · exact aux a b c hd3 (by simp) (by simp) (by simp)
      · exact aux a c b ⟨hd3.2.2, Ne.symm hd3.2.1, hd3.1⟩ (by simp) (by simp) (by simp)
    have hp := gp_card_prod (gp_z3_card hd3) hd
    refine gp_part (fun x y : gp_f => ∃ z h, gp_z3 a b c z ∧ H h ∧ z ∘ x ∘ h = y) ?_ ?_ ?_ _ _ (gp_card_sym _ hn) ?_
    · intro x; exact ⟨id, id, hZ.1, hH.1, rfl⟩
    · rintro x y ⟨z, h, hz, hh, rfl⟩
      obtain ⟨z', hz', hzi⟩ := hZ.2.2 z hz
      obtain ⟨h', hh', hhi⟩ := hH.2.2 h hh
      refine ⟨z', h', hz', hh', ?_⟩
      funext p
      show z' (z (x (h (h' p)))) = x p
      rw [hzi.2, hhi.1]
    · rintro x y w ⟨z, h, hz, hh, rfl⟩ ⟨z', h', hz', hh', rfl⟩
      exact ⟨z' ∘ z, h ∘ h', hZ.2.1 _ _ hz' hz, hH.2.1 _ _ hh hh', rfl⟩
    · intro x hx
      obtain ⟨x', hx', hxi⟩ := (gp_sym_sg _).2.2 x hx
      refine gp_card_congr (gp_card_img hp (fun y : gp_f × gp_f => y.1 ∘ x ∘ y.2) ?_) (fun y => ?_)
      · rintro ⟨u, h⟩ ⟨v, k⟩ ⟨hu, hh⟩ ⟨hv, hk⟩ e
        have e' : ∀ p, u (x (h p)) = v (x (k p)) := fun p => congrFun e p
        obtain ⟨v', hv', hvi⟩ := hZ.2.2 v hv
        obtain ⟨h', hh', hhi⟩ := hH.2.2 h hh
        have e2 : x' ∘ (v' ∘ u) ∘ x = k ∘ h' := by
          funext p
          show x' (v' (u (x p))) = k (h' p)
          have := e' (h' p)
          rw [hhi.1] at this
          rw [this, hvi.2, hxi.2]
        have hm : H (x' ∘ (v' ∘ u) ∘ x) := by
          rw [e2]; exact hH.2.1 _ _ hk hh'
        have hw : v' ∘ u = id := by
          have hxi' := gp_inv_symm hxi
          rcases hZ.2.1 _ _ hv' hu with h1 | h1 | h1
          · exact h1
          · exfalso
            rw [h1, gp_c3_conj hxi' hd3] at hm
            exact h3 _ _ _ (gp_d3_map hxi' hd3) hm
          · exfalso
            have hd3' : gp_d3 a c b := ⟨hd3.2.2, Ne.symm hd3.2.1, hd3.1⟩
            rw [h1, gp_c3_conj hxi' hd3'] at hm
            exact h3 _ _ _ (gp_d3_map hxi' hd3') hm
        have huv : u = v := by
          funext p
          have h4 : v' (u p) = p := congrFun hw p
          have h5 := congrArg v h4
          rw [hvi.1] at h5
          exact h5
        have hhk : h = k := by
          funext p
          have h5 := congrArg v' (e' p)
          rw [huv, hvi.2, hvi.2] at h5
          exact gp_inv_inj hxi h5
        rw [huv, hhk]
      · constructor
        · rintro ⟨⟨u, h⟩, ⟨hu, hh⟩, rfl⟩
          refine ⟨?_, u, h, hu, hh, rfl⟩
          exact (gp_sym_sg _).2.1 _ _ (hZs u hu) ((gp_sym_sg _).2.1 _ _ hx (hs h hh))
        · rintro ⟨_, u, h, hu, hh, e⟩
          exact ⟨(u, h), ⟨hu, hh⟩, e⟩

end
