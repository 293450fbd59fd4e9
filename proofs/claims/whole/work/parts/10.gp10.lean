/-! The chain as it is made: what each step keeps. Pure. -/
section

/-- the links from a on are done; each row of a link made its group larger -/
def ch_inv (n : Nat) (gs : Nat → List gp_f) (pr : Nat → Nat → Nat) (sn : Nat → Nat) (sp : Nat → Nat → Nat)
    (wb : Nat → Nat → gp_f) (a : Nat) : Prop :=
  ch_ok n gs pr sn sp wb ∧ (∀ i, a ≤ i → i < n → ch_done gs pr sn i) ∧
    ∀ i, i < n → gp_lam (gs i).length (ch_G (gs i))

section
variable {n : Nat} {gs : Nat → List gp_f} {pr : Nat → Nat → Nat} {sn : Nat → Nat} {sp : Nat → Nat → Nat}
  {wb : Nat → Nat → gp_f} {a : Nat}

/-- a link is left upwards -/
theorem ch_pop (h : ch_inv n gs pr sn sp wb (a + 1)) (hd : a < n → ch_done gs pr sn a) : ch_inv n gs pr sn sp wb a := by
  refine ⟨h.1, fun i hi hin => ?_, h.2.2⟩
  rcases Nat.lt_or_eq_of_le hi with h1 | h1
  · exact h.2.1 i h1 hin
  · rw [← h1]
    exact hd (by omega)

/-- one pair more of link a is done: what it gives is of the link below -/
theorem ch_pair (h : ch_inv n gs pr sn sp wb (a + 1)) (ha : a < n) {k s t : Nat} {g u : gp_f} (hk : (gs a)[k]? = some g)
    (hs : s = pr a k) (hsn : s < sn a) (ht : t < sn a) (hq : sp a t = g (sp a s)) (hu : u ∘ wb a s = wb a t ∘ g)
    (hin : ch_G (gs (a + 1)) u) : ch_inv n gs (va_up pr a (va_up (pr a) k (s + 1))) sn sp wb (a + 1) := by
  obtain ⟨⟨h0, h1⟩, h2, h3⟩ := h
  refine ⟨⟨h0, fun i hi => ?_⟩, fun i hi hin => ?_, h3⟩
  · obtain ⟨c1, c2, c3, c4⟩ := h1 i hi
    by_cases e : i = a
    · subst e
      refine ⟨c1, ?_, c3, ?_⟩
      · rw [va_up_self]
        intro k' g' hk' s' hs'
        by_cases ek : k' = k
        · subst ek
          rw [va_up_self] at hs'
          by_cases es : s' = s
          · subst es
            rw [hk] at hk'
            cases hk'
            exact ⟨t, ht, hq, u, hin, hu⟩
          · exact c2 k' g' hk' s' (by omega)
        · rw [va_up_ne _ _ ek] at hs'
          exact c2 k' g' hk' s' hs'
      · rw [va_up_self]
        intro k' g' hk'
        by_cases ek : k' = k
        · subst ek
          rw [va_up_self]
          omega
        · rw [va_up_ne _ _ ek]
          exact c4 k' g' hk'
    · rw [va_up_ne _ _ e]
      exact ⟨c1, c2, c3, c4⟩
  · have e : i ≠ a := by omega
    have := h2 i hi hin
    unfold ch_done at this ⊢
    rw [va_up_ne _ _ e]
    exact this

/-- a pair of link a reaches a new place -/
theorem ch_wide (h : ch_inv n gs pr sn sp wb (a + 1)) (ha : a < n) {k s : Nat} {g g' : gp_f} (hk : (gs a)[k]? = some g)
    (hs : s = pr a k) (hsn : s < sn a) (hi : gp_inv g g') (hnew : ∀ t, t < sn a → sp a t ≠ g (sp a s)) :
    ch_inv n gs (va_up pr a (va_up (pr a) k (s + 1))) (va_up sn a (sn a + 1))
      (va_up sp a (va_up (sp a) (sn a) (g (sp a s)))) (va_up wb a (va_up (wb a) (sn a) (wb a s ∘ g'))) (a + 1) := by
  obtain ⟨⟨h0, h1⟩, h2, h3⟩ := h
  refine ⟨⟨h0, fun i hi' => ?_⟩, fun i hi' hin => ?_, h3⟩
  · obtain ⟨c1, c2, c3, c4⟩ := h1 i hi'
    by_cases e : i = a
    · subst e
      obtain ⟨d1, d2, d3, d4, d5, d6⟩ := c1
      have hgm : g ∈ gs i := List.mem_of_getElem? hk
      have hsg : gp_sg (ch_G (gs i)) := gp_gen_sg (ch_D_nodup n i) d1
      have hg'm : ch_G (gs i) g' := gp_sg_inv hsg (gp_gen_mem hgm) hi
      have hne : ∀ x, x < sn i → x ≠ sn i := fun x hx => Nat.ne_of_lt hx
      simp only [va_up_self]
      refine ⟨⟨d1, by omega, ?_, ?_, ?_, ?_⟩, ?_, c3, ?_⟩
      · rw [va_up_ne _ _ (hne 0 d2)]; exact d3
      · rw [va_up_ne _ _ (hne 0 d2)]; exact d4
      · intro x hx
        by_cases ex : x = sn i
        · rw [ex, va_up_self, va_up_self]
          refine ⟨gp_gen_comp (d5 s hsn).1 hg'm, ?_⟩
          show wb i s (g' (g (sp i s))) = i
          rw [hi.2]
          exact (d5 s hsn).2
        · rw [va_up_ne _ _ ex, va_up_ne _ _ ex]
          exact d5 x (by omega)
      · intro x y hx hy
        by_cases ex : x = sn i
        · by_cases ey : y = sn i
          · intro _; rw [ex, ey]
          · rw [ex, va_up_self, va_up_ne _ _ ey]
            intro exy
            exact absurd exy.symm (hnew y (by omega))
        · by_cases ey : y = sn i
          · rw [ey, va_up_self, va_up_ne _ _ ex]
            intro exy
            exact absurd exy (hnew x (by omega))
          · rw [va_up_ne _ _ ex, va_up_ne _ _ ey]
            exact d6 x y (by omega) (by omega)
      · intro k' f hk' s' hs'
        have old : s' < pr i k' → ∃ t, t < sn i + 1 ∧ va_up (sp i) (sn i) (g (sp i s)) t = f (va_up (sp i) (sn i) (g (sp i s)) s') ∧
            ∃ u, ch_G (gs (i + 1)) u ∧ u ∘ va_up (wb i) (sn i) (wb i s ∘ g') s' = va_up (wb i) (sn i) (wb i s ∘ g') t ∘ f := by
          intro hs''
          obtain ⟨t, ht, e1, u, hu, e2⟩ := c2 k' f hk' s' hs''
          have hs3 : s' < sn i := Nat.lt_of_lt_of_le hs'' (c4 k' f hk')
          refine ⟨t, by omega, ?_, u, hu, ?_⟩
          · rw [va_up_ne _ _ (hne t ht), va_up_ne _ _ (hne s' hs3)]; exact e1
          · rw [va_up_ne _ _ (hne t ht), va_up_ne _ _ (hne s' hs3)]; exact e2
        by_cases ek : k' = k
        · subst ek
          rw [va_up_self] at hs'
          by_cases es : s' = s
          · rw [hk] at hk'
            cases hk'
            rw [es]
            refine ⟨sn i, by omega, ?_, id, gp_gen_id, ?_⟩
            · rw [va_up_self, va_up_ne _ _ (hne s hsn)]
            · rw [va_up_self, va_up_ne _ _ (hne s hsn)]
              funext x
              show wb i s x = wb i s (g' (g x))
              rw [hi.2]
          · exact old (by omega)
        · rw [va_up_ne _ _ ek] at hs'
          exact old hs'
      · intro k' g' hk'
        by_cases ek : k' = k
        · subst ek
          rw [va_up_self]
          omega
        · rw [va_up_ne _ _ ek]
          have := c4 k' g' hk'
          omega
    · simp only [va_up_ne _ _ e]
      exact ⟨c1, c2, c3, c4⟩
  · have e : i ≠ a := by omega
    have := h2 i hi' hin
    unfold ch_done at this ⊢
    simp only [va_up_ne _ _ e]
    exact this

/-- a row that isn't of link b is put to it -/
theorem ch_add {b : Nat} (h : ch_inv n gs pr sn sp wb b) (hb : b < n) {r : gp_f} (hr : gp_sym (ch_D n b) r) (hnr : ¬ ch_G (gs b) r)
    (hup : ∀ i, i + 1 = b → ch_G (gs i) r) :
    ch_inv n (va_up gs b (gs b ++ [r])) (va_up pr b (va_up (pr b) (gs b).length 0)) sn sp wb (b + 1) := by
  obtain ⟨⟨h0, h1⟩, h2, h3⟩ := h
  have hmono : ∀ x, ch_G (gs b) x → ch_G (gs b ++ [r]) x :=
    gp_gen_mono (fun t ht => List.mem_append_left _ ht)
  have hsym : ∀ g, g ∈ gs b ++ [r] → gp_sym (ch_D n b) g := by
    intro g hg
    rcases List.mem_append.1 hg with hg | hg
    · exact (h1 b hb).1.1 g hg
    · rw [List.mem_singleton.1 hg]; exact hr
  refine ⟨⟨?_, fun i hi => ?_⟩, fun i hi hin => ?_, fun i hi => ?_⟩
  · rw [va_up_ne _ _ (by omega : n ≠ b)]; exact h0
  · obtain ⟨c1, c2, c3, c4⟩ := h1 i hi
    by_cases e : i = b
    · subst e
      have e1 : i + 1 ≠ i := by omega
      rw [va_up_self, va_up_self, va_up_ne _ _ e1]
      refine ⟨⟨hsym, c1.2.1, c1.2.2.1, c1.2.2.2.1, fun s hs => ⟨hmono _ (c1.2.2.2.2.1 s hs).1, (c1.2.2.2.2.1 s hs).2⟩, c1.2.2.2.2.2⟩, ?_, ?_, ?_⟩
      · intro k g hk s hs
        by_cases ek : k = (gs i).length
        · rw [ek, va_up_self] at hs
          exact absurd hs (Nat.not_lt_zero _)
        · rw [va_up_ne _ _ ek] at hs
          have hk' : k < (gs i).length := by
            have := (List.getElem?_eq_some_iff.1 hk).1
            rw [List.length_append] at this
            simp at this
            omega
          rw [List.getElem?_append_left hk'] at hk
          exact c2 k g hk s hs
      · exact fun g hg => hmono g (c3 g hg)
      · intro k g hk
        by_cases ek : k = (gs i).length
        · rw [ek, va_up_self]; exact Nat.zero_le _
        · rw [va_up_ne _ _ ek]
          have hk' : k < (gs i).length := by
            have := (List.getElem?_eq_some_iff.1 hk).1
            rw [List.length_append] at this
            simp at this
            omega
          rw [List.getElem?_append_left hk'] at hk
          exact c4 k g hk
    · rw [va_up_ne _ _ e, va_up_ne _ _ e]
      by_cases e1 : i + 1 = b
      · subst e1
        rw [va_up_self]
        refine ⟨c1, ?_, ?_, c4⟩
        · intro k g hk s hs
          obtain ⟨t, ht, e2, u, hu, e3⟩ := c2 k g hk s hs
          exact ⟨t, ht, e2, u, hmono u hu, e3⟩
        · intro g hg
          rcases List.mem_append.1 hg with hg | hg
          · exact c3 g hg
          · rw [List.mem_singleton.1 hg]; exact hup i rfl
      · rw [va_up_ne _ _ e1]
        exact ⟨c1, c2, c3, c4⟩
  · have e : i ≠ b := by omega
    have := h2 i (by omega) hin
    unfold ch_done at this ⊢
    rw [va_up_ne _ _ e, va_up_ne _ _ e]
    exact this
  · by_cases e : i = b
    · subst e
      rw [va_up_self, List.length_append]
      refine ⟨gp_gen_sg (ch_D_nodup n i) hsym, ch_G (gs i), h3 i hi, hmono, r, ?_, hnr⟩
      exact gp_gen_mem (List.mem_append_right _ (List.mem_singleton.2 rfl))
    · rw [va_up_ne _ _ e]
      exact h3 i hi

/-- how many rows a link has at most -/
theorem ch_most (h : ch_inv n gs pr sn sp wb a) (hn : n ≤ 24) {i : Nat} (hi : i < n) (hi0 : 0 < i ∨ n < 24) :
    (gs i).length ≤ (n - i) * 3 / 2 := by
  have := gp_chain (D := ch_D n i) (ch_D_nodup n i) (by rw [ch_D_len]; omega) (ch_in_sym h.1 (Nat.le_of_lt hi)) (h.2.2 i hi)
  rw [ch_D_len] at this
  exact this

/-- what a pair gives: it leaves the places up to the link's -/
theorem ch_round (h : ch_ok n gs pr sn sp wb) (ha : a < n) {s t : Nat} {g u : gp_f} (hg : g ∈ gs a) (hsn : s < sn a)
    (ht : t < sn a) (hq : sp a t = g (sp a s)) (hu : u ∘ wb a s = wb a t ∘ g) :
    ch_G (gs a) u ∧ gp_sym (ch_D n (a + 1)) u := by
  obtain ⟨c1, c2, c3, c4⟩ := h.2 a ha
  have hsg := ch_sg h (Nat.le_of_lt ha)
  obtain ⟨w, hw, hwi⟩ := hsg.2.2 _ (c1.2.2.2.2.1 s hsn).1
  have e : u = (wb a t ∘ g) ∘ w := by
    rw [← hu]
    funext x
    show u x = u (wb a s (w x))
    rw [hwi.1]
  have hG : ch_G (gs a) u := by
    rw [e]
    exact hsg.2.1 _ _ (hsg.2.1 _ _ (c1.2.2.2.2.1 t ht).1 (gp_gen_mem hg)) hw
  refine ⟨hG, ?_⟩
  have hs := ch_in_sym h (Nat.le_of_lt ha) u hG
  refine ⟨hs.1, fun p hp => ?_⟩
  by_cases ep : p = a
  · subst ep
    have := congrFun hu (sp p s)
    have h2 : u (wb p s (sp p s)) = wb p t (g (sp p s)) := this
    rw [(c1.2.2.2.2.1 s hsn).2, ← hq, (c1.2.2.2.2.1 t ht).2] at h2
    exact h2
  · refine hs.2 p (fun hm => hp ?_)
    rw [ch_D_mem] at hm ⊢
    omega

end

end
