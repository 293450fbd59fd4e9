/-! The chain as it is made: rows for the methods. -/
section
theorem cn_gs_add {n : Nat} {gn : Nat → Nat} {G : Nat → Nat → gp_f} {b : Nat} (hb : b < n) (r : gp_f) :
    cn_gs n (va_up gn b (gn b + 1)) (va_up G b (va_up (G b) (gn b) r)) = va_up (cn_gs n gn G) b (cn_gs n gn G b ++ [r]) := by
  funext i
  by_cases e : i = b
  · subst e
    rw [va_up_self]
    unfold cn_gs
    rw [if_pos hb, if_pos hb, va_up_self, va_up_self, List.range_succ, List.map_append]
    congr 1
    · apply List.map_congr_left
      intro k hk
      rw [va_up_ne _ _ (Nat.ne_of_lt (List.mem_range.1 hk))]
    · simp [va_up_self]
  · rw [va_up_ne _ _ e]
    unfold cn_gs
    rw [va_up_ne _ _ e, va_up_ne _ _ e]

section
variable {n : Nat} {gs : Nat → List gp_f} {pr : Nat → Nat → Nat} {sn : Nat → Nat} {sp : Nat → Nat → Nat}
  {wb : Nat → Nat → gp_f} {a c : Nat}

theorem ch_pair2 (h : ch_inv n gs pr sn sp wb c) (hac : a < c) (ha : a < n) {k s t : Nat} {g u : gp_f} (hk : (gs a)[k]? = some g)
    (hs : s = pr a k) (hsn : s < sn a) (ht : t < sn a) (hq : sp a t = g (sp a s)) (hu : u ∘ wb a s = wb a t ∘ g)
    (hin : ch_G (gs (a + 1)) u) : ch_inv n gs (va_up pr a (va_up (pr a) k (s + 1))) sn sp wb c := by
  obtain ⟨⟨h0, h1⟩, h2, h3⟩ := h
  refine ⟨⟨h0, fun i hi => ?_⟩, fun i hi hin => ?_, h3⟩
  · obtain ⟨c1, c2, c3, c4⟩ := h1 i hi
    by_cases e : i = a
    · subst e
      refine ⟨c1, ?_, c3, ?_⟩
      · rw [va_up_self]
        intro k' g' hk' s' hs'
        by_cases ek : k' = k
        · subst ek
          rw [va_up_self] at hs'
          by_cases es : s' = s
          · subst es
            rw [hk] at hk'
            cases hk'
            exact ⟨t, ht, hq, u, hin, hu⟩
          · exact c2 k' g' hk' s' (by omega)
        · rw [va_up_ne _ _ ek] at hs'
          exact c2 k' g' hk' s' hs'
      · rw [va_up_self]
        intro k' g' hk'
        by_cases ek : k' = k
        · subst ek
          rw [va_up_self]
          omega
        · rw [va_up_ne _ _ ek]
          exact c4 k' g' hk'
    · rw [va_up_ne _ _ e]
      exact ⟨c1, c2, c3, c4⟩
  · have e : i ≠ a := by omega
    have := h2 i hi hin
    unfold ch_done at this ⊢
    rw [va_up_ne _ _ e]
    exact this
end

/-- h 0 + ... + h (k - 1) -/
def cn_sm (h : Nat → Nat) : Nat → Nat
  | 0 => 0
  | k + 1 => cn_sm h k + h k

theorem cn_sm_out {h : Nat → Nat} {j v : Nat} : ∀ k, k ≤ j → cn_sm (va_up h j v) k = cn_sm h k := by
  intro k
  induction k with
  | zero => intro _; rfl
  | succ k ih =>
    intro hk
    show cn_sm (va_up h j v) k + va_up h j v k = cn_sm h k + h k
    rw [ih (by omega), va_up_ne _ _ (by omega)]

theorem cn_sm_up {h : Nat → Nat} {j v : Nat} : ∀ k, j < k → cn_sm (va_up h j v) k + h j = cn_sm h k + v := by
  intro k
  induction k with
  | zero => intro hk; omega
  | succ k ih =>
    intro hk
    show cn_sm (va_up h j v) k + va_up h j v k + h j = cn_sm h k + h k + v
    by_cases e : k = j
    · subst e
      rw [va_up_self, cn_sm_out k (Nat.le_refl k)]
      omega
    · rw [va_up_ne _ _ e]
      have := ih (by omega)
      omega

theorem cn_sm_le {h : Nat → Nat} {M : Nat} : ∀ k, (∀ j, j < k → h j ≤ M) → cn_sm h k ≤ k * M := by
  intro k
  induction k with
  | zero => intro _; exact Nat.zero_le _
  | succ k ih =>
    intro hk
    have h1 := ih (fun j hj => hk j (by omega))
    have h2 := hk k (Nat.lt_succ_self k)
    show cn_sm h k + h k ≤ (k + 1) * M
    rw [Nat.add_mul, Nat.one_mul]
    omega

theorem cn_sm_congr {h h' : Nat → Nat} : ∀ k, (∀ j, j < k → h j = h' j) → cn_sm h k = cn_sm h' k := by
  intro k
  induction k with
  | zero => intro _; rfl
  | succ k ih =>
    intro hk
    show cn_sm h k + h k = cn_sm h' k + h' k
    rw [ih (fun j hj => hk j (by omega)), hk k (Nat.lt_succ_self k)]

/-- how many pairs were looked at -/
def cn_mu (n : Nat) (gn : Nat → Nat) (pr : Nat → Nat → Nat) : Nat := cn_sm (fun i => cn_sm (pr i) (gn i)) n

theorem cn_mu_le {n : Nat} {gn : Nat → Nat} {G : Nat → Nat → Nat → Nat} {pr : Nat → Nat → Nat} {sn : Nat → Nat} {sp : Nat → Nat → Nat} {ix : Nat → Nat → Option Nat} {wb : Nat → Nat → Nat → Nat}
    (hW : cn_W n gn G pr sn sp ix wb) (hn : n ≤ 24) : cn_mu n gn pr ≤ 20736 := by
  have h1 : ∀ i, i < n → cn_sm (pr i) (gn i) ≤ 864 := by
    intro i hi
    obtain ⟨_, _, h3, _, _, h6, _, _, _, _, h11⟩ := hW i hi
    have h2 := cn_sm_le (h := pr i) (M := 24) (gn i) (fun j hj => by have := h11 j hj; omega)
    have h4 : gn i * 24 ≤ 36 * 24 := Nat.mul_le_mul_right _ (by unfold lk_most at h3; omega)
    omega
  have h2 := cn_sm_le (h := fun i => cn_sm (pr i) (gn i)) (M := 864) n h1
  have h3 : n * 864 ≤ 24 * 864 := Nat.mul_le_mul_right _ hn
  unfold cn_mu
  omega

theorem cn_mu_pair {n : Nat} {gn : Nat → Nat} {pr : Nat → Nat → Nat} {a k : Nat} (ha : a < n) (hk : k < gn a) :
    cn_mu n gn (va_up pr a (va_up (pr a) k (pr a k + 1))) = cn_mu n gn pr + 1 := by
  unfold cn_mu
  have e : (fun i => cn_sm (va_up pr a (va_up (pr a) k (pr a k + 1)) i) (gn i)) = va_up (fun i => cn_sm (pr i) (gn i)) a (cn_sm (pr a) (gn a) + 1) := by
    funext i
    by_cases h : i = a
    · subst h
      rw [va_up_self, va_up_self]
      have := cn_sm_up (h := pr i) (j := k) (v := pr i k + 1) (gn i) hk
      omega
    · rw [va_up_ne _ _ h, va_up_ne _ _ h]
  rw [e]
  have := cn_sm_up (h := fun i => cn_sm (pr i) (gn i)) (j := a) (v := cn_sm (pr a) (gn a) + 1) n ha
  omega

theorem cn_mu_add {n : Nat} {gn : Nat → Nat} {pr : Nat → Nat → Nat} {b : Nat} (hb : b < n) :
    cn_mu n (va_up gn b (gn b + 1)) (va_up pr b (va_up (pr b) (gn b) 0)) = cn_mu n gn pr := by
  unfold cn_mu
  refine cn_sm_congr n (fun i hi => ?_)
  by_cases h : i = b
  · subst h
    rw [va_up_self, va_up_self]
    show cn_sm (va_up (pr i) (gn i) 0) (gn i) + va_up (pr i) (gn i) 0 (gn i) = cn_sm (pr i) (gn i)
    rw [va_up_self, cn_sm_out (gn i) (Nat.le_refl _)]
    rfl
  · rw [va_up_ne _ _ h, va_up_ne _ _ h]

/-- link a with one pair more -/
theorem lk_W_pair {n i gn : Nat} {G : Nat → Nat → Nat} {pr : Nat → Nat} {sn : Nat} {sp : Nat → Nat} {ix : Nat → Option Nat} {wb : Nat → Nat → Nat} (h : lk_W n i gn G pr sn sp ix wb) {k : Nat} (hk : pr k < sn) :
    lk_W n i gn G (va_up pr k (pr k + 1)) sn sp ix wb := by
  obtain ⟨h1, h2, h3, h4, h5, h6, h7, h8, h9, h10, h11⟩ := h
  refine ⟨h1, h2, h3, h4, h5, h6, h7, h8, h9, h10, fun j hj => ?_⟩
  by_cases e : j = k
  · rw [e, va_up_self]; omega
  · rw [va_up_ne _ _ e]; exact h11 j hj

theorem lk_W_wide {n i gn : Nat} {G : Nat → Nat → Nat} {pr : Nat → Nat} {sn : Nat} {sp : Nat → Nat} {ix : Nat → Option Nat} {wb : Nat → Nat → Nat} (h : lk_W n i gn G pr sn sp ix wb)
    {q : Nat} (hqi : i ≤ q) (hqn : q < n) (hx : ix q = none) {x : Nat → Nat} (hxs : gp_sym (ch_D n i) x) :
    lk_W n i gn G pr (sn + 1) (va_up sp sn q) (va_up ix q (some sn)) (va_up wb sn x) := by
  have hroom := lk_room h hqi hqn hx
  obtain ⟨h1, h2, h3, h4, h5, h6, h7, h8, h9, h10, h11⟩ := h
  refine ⟨h1, h2, h3, h4, by omega, by omega, ?_, ?_, ?_, ?_, fun j hj => by have := h11 j hj; omega⟩
  · rw [va_up_ne _ _ (by omega)]; exact h7
  · intro s hs
    by_cases e : s = sn
    · rw [e, va_up_self]; exact ⟨hqi, hqn⟩
    · rw [va_up_ne _ _ e]; exact h8 s (by omega)
  · intro p hp s
    by_cases ep : p = q
    · subst ep
      rw [va_up_self]
      constructor
      · intro e
        cases e
        exact ⟨Nat.lt_succ_self _, va_up_self ..⟩
      · rintro ⟨hs, e⟩
        by_cases es : s = sn
        · rw [es]
        · rw [va_up_ne _ _ es] at e
          have := (h9 p hp s).2 ⟨by omega, e⟩
          rw [hx] at this
          cases this
    · rw [va_up_ne _ _ ep, h9 p hp s]
      constructor
      · rintro ⟨hs, e⟩
        exact ⟨by omega, by rw [va_up_ne _ _ (by omega)]; exact e⟩
      · rintro ⟨hs, e⟩
        by_cases es : s = sn
        · rw [es, va_up_self] at e
          exact absurd e.symm ep
        · rw [va_up_ne _ _ es] at e
          exact ⟨by omega, e⟩
  · intro s hs
    by_cases e : s = sn
    · rw [e, va_up_self]; exact hxs
    · rw [va_up_ne _ _ e]; exact h10 s (by omega)

theorem lk_W_add {n i gn : Nat} {G : Nat → Nat → Nat} {pr : Nat → Nat} {sn : Nat} {sp : Nat → Nat} {ix : Nat → Option Nat} {wb : Nat → Nat → Nat} (h : lk_W n i gn G pr sn sp ix wb)
    (hm : gn < lk_most n i) {r : Nat → Nat} (hr : gp_sym (ch_D n i) r) : lk_W n i (gn + 1) (va_up G gn r) (va_up pr gn 0) sn sp ix wb := by
  obtain ⟨h1, h2, h3, h4, h5, h6, h7, h8, h9, h10, h11⟩ := h
  refine ⟨h1, h2, hm, fun j hj => ?_, h5, h6, h7, h8, h9, h10, fun j hj => ?_⟩
  · by_cases e : j = gn
    · rw [e, va_up_self]; exact hr
    · rw [va_up_ne _ _ e]; exact h4 j (by omega)
  · by_cases e : j = gn
    · rw [e, va_up_self]; exact Nat.zero_le _
    · rw [va_up_ne _ _ e]; exact h11 j (by omega)

theorem cn_W_link {n : Nat} {gn : Nat → Nat} {G : Nat → Nat → Nat → Nat} {pr : Nat → Nat → Nat} {sn : Nat → Nat} {sp : Nat → Nat → Nat} {ix : Nat → Nat → Option Nat} {wb : Nat → Nat → Nat → Nat}
    (h : cn_W n gn G pr sn sp ix wb) {i : Nat} {gn1 : Nat} {G1 : Nat → Nat → Nat} {pr1 : Nat → Nat} {sn1 : Nat} {sp1 : Nat → Nat} {ix1 : Nat → Option Nat} {wb1 : Nat → Nat → Nat}
    (h1 : lk_W n i gn1 G1 pr1 sn1 sp1 ix1 wb1) : cn_W n (va_up gn i gn1) (va_up G i G1) (va_up pr i pr1) (va_up sn i sn1) (va_up sp i sp1) (va_up ix i ix1) (va_up wb i wb1) := by
  intro j hj
  by_cases e : j = i
  · subst e
    simp only [va_up_self]
    exact h1
  · simp only [va_up_ne _ _ e]
    exact h j hj
end
