/-! The longest chain: groups that keep classes, numbers, and the end of the induction. Pure. -/
section

def gp_un : List (Nat × Nat) → List Nat
  | [] => []
  | x :: l => List.replicate x.2 x.1 ++ gp_un l

def gp_tab : List (List (Nat × Nat) × Nat × List (Nat × Nat) × Nat) :=
  [([], 2, [], 2),
   ([], 2, [], 2),
   ([], 2, [], 2),
   ([], 5, [(2, 1)], 2),
   ([(2, 2)], 5, [(2, 3)], 2),
   ([(2, 2), (5, 1)], 3, [(2, 3), (5, 1)], 2),
   ([(2, 3), (3, 1), (5, 1)], 3, [(2, 4), (3, 1), (5, 1)], 2),
   ([(2, 3), (3, 1), (5, 1), (7, 1)], 3, [(2, 4), (3, 1), (5, 1), (7, 1)], 2),
   ([(2, 6), (3, 1), (5, 1), (7, 1)], 3, [(2, 7), (3, 1), (5, 1), (7, 1)], 3),
   ([(2, 6), (3, 3), (5, 1), (7, 1)], 3, [(2, 7), (3, 3), (5, 1), (7, 1)], 3),
   ([(2, 7), (3, 3), (5, 2), (7, 1)], 3, [(2, 8), (3, 3), (5, 2), (7, 1)], 3),
   ([(2, 7), (3, 3), (5, 2), (7, 1), (11, 1)], 3, [(2, 8), (3, 3), (5, 2), (7, 1), (11, 1)], 3),
   ([(2, 9), (3, 4), (5, 2), (7, 1), (11, 1)], 5, [(2, 10), (3, 4), (5, 2), (7, 1), (11, 1)], 3),
   ([(2, 9), (3, 4), (5, 2), (7, 1), (11, 1), (13, 1)], 5, [(2, 10), (3, 4), (5, 2), (7, 1), (11, 1), (13, 1)], 3),
   ([(2, 10), (3, 4), (5, 2), (7, 2), (11, 1), (13, 1)], 5, [(2, 11), (3, 4), (5, 2), (7, 2), (11, 1), (13, 1)], 5),
   ([(2, 10), (3, 5), (5, 3), (7, 2), (11, 1), (13, 1)], 5, [(2, 11), (3, 5), (5, 3), (7, 2), (11, 1), (13, 1)], 3),
   ([(2, 14), (3, 5), (5, 3), (7, 2), (11, 1), (13, 1)], 5, [(2, 15), (3, 5), (5, 3), (7, 2), (11, 1), (13, 1)], 3),
   ([(2, 14), (3, 5), (5, 3), (7, 2), (11, 1), (13, 1), (17, 1)], 5, [(2, 15), (3, 5), (5, 3), (7, 2), (11, 1), (13, 1), (17, 1)], 3),
   ([(2, 15), (3, 7), (5, 3), (7, 2), (11, 1), (13, 1), (17, 1)], 5, [(2, 16), (3, 7), (5, 3), (7, 2), (11, 1), (13, 1), (17, 1)], 5),
   ([(2, 15), (3, 7), (5, 3), (7, 2), (11, 1), (13, 1), (17, 1), (19, 1)], 5, [(2, 16), (3, 7), (5, 3), (7, 2), (11, 1), (13, 1), (17, 1), (19, 1)], 3),
   ([(2, 17), (3, 7), (5, 4), (7, 2), (11, 1), (13, 1), (17, 1), (19, 1)], 5, [(2, 18), (3, 7), (5, 4), (7, 2), (11, 1), (13, 1), (17, 1), (19, 1)], 5),
   ([(2, 17), (3, 8), (5, 4), (7, 3), (11, 1), (13, 1), (17, 1), (19, 1)], 5, [(2, 18), (3, 8), (5, 4), (7, 3), (11, 1), (13, 1), (17, 1), (19, 1)], 5),
   ([(2, 18), (3, 8), (5, 4), (7, 3), (11, 2), (13, 1), (17, 1), (19, 1)], 7, [(2, 19), (3, 8), (5, 4), (7, 3), (11, 2), (13, 1), (17, 1), (19, 1)], 5),
   ([(2, 18), (3, 8), (5, 4), (7, 3), (11, 2), (13, 1), (17, 1), (19, 1), (23, 1)], 5, [(2, 19), (3, 8), (5, 4), (7, 3), (11, 2), (13, 1), (17, 1), (19, 1), (23, 1)], 5)]

def gp_psA (n : Nat) : List Nat := gp_un (gp_tab.getD n ([], 2, [], 2)).1
def gp_qA (n : Nat) : Nat := (gp_tab.getD n ([], 2, [], 2)).2.1
def gp_psS (n : Nat) : List Nat := gp_un (gp_tab.getD n ([], 2, [], 2)).2.2.1
def gp_qS (n : Nat) : Nat := (gp_tab.getD n ([], 2, [], 2)).2.2.2

def gp_prms : List Nat := [2, 3, 5, 7, 11, 13, 17, 19, 23]

theorem gp_prm_dec : ∀ p, p ∈ gp_prms → gp_prm p := by
  have h : ∀ p, p ∈ gp_prms → 2 ≤ p ∧ ∀ d, d < p + 1 → d ∣ p → d = 1 ∨ d = p := by decide +kernel
  intro p hp
  refine ⟨(h p hp).1, fun d hd => (h p hp).2 d ?_ hd⟩
  have := Nat.le_of_dvd (by have := (h p hp).1; omega) hd
  omega

theorem gp_tabA : ∀ n, n < 24 → 3 ≤ n → 6 * gp_prod (gp_psA n) = gp_fac n ∧ 0 < gp_qA n ∧ 2 ≤ gp_g n ∧
    gp_fac n * gp_qA n ^ gp_cl (gp_qA n) (gp_psA n) <
      gp_qA n ^ ((gp_g n - 2) + 1) * gp_pl (gp_qA n) (gp_psA n) * gp_fac ((n + 1) / 2) := by decide +kernel

theorem gp_tabS : ∀ n, n < 24 → 3 ≤ n → 3 * gp_prod (gp_psS n) = gp_fac n ∧ 0 < gp_qS n ∧
    gp_fac n * gp_qS n ^ gp_cl (gp_qS n) (gp_psS n) <
      gp_qS n ^ ((gp_g n - 1) + 1) * gp_pl (gp_qS n) (gp_psS n) * gp_fac ((n + 1) / 2) := by decide +kernel

theorem gp_tabP : ∀ n, n < 24 → (∀ p, p ∈ gp_psA n → p ∈ gp_prms) ∧ (∀ p, p ∈ gp_psS n → p ∈ gp_prms) := by decide +kernel

theorem gp_tab1 : ∀ n, n < 24 → 3 ≤ n → ∀ k, k < n → 0 < k → gp_g k + gp_g (n - k) + 1 ≤ gp_g n := by decide +kernel

theorem gp_tab2 : ∀ s, s < 24 → 3 ≤ s → ∀ r, r < 24 → 2 ≤ r → s * r < 24 → gp_g r + r * gp_g s + 1 ≤ gp_g (s * r) := by
  decide +kernel

theorem gp_tab3 : ∀ n, n < 24 → gp_g n ≤ n * 3 / 2 := by decide +kernel

/-- of a group with no three put round alone: how long its chains are -/
theorem gp_case1S {H : gp_f → Prop} {D : List Nat} {k : Nat} (hH : gp_sg H) (hs : gp_sub H (gp_sym D)) (hn : D.Nodup)
    (hl : 3 ≤ D.length) (hu : D.length < 24) (h3 : gp_no3 H) (hk : gp_lam k H) : k + 1 ≤ gp_g D.length := by
  obtain ⟨d, hd⟩ := gp_card_sub (gp_card_sym D hn) hs
  obtain ⟨t1, t2, t3⟩ := gp_tabS D.length hu hl
  obtain ⟨_, _, t4, _⟩ := gp_tabA D.length hu hl
  have h1 := gp_third hH hs hn hl h3 hd
  rw [← t1] at h1
  have h2 : d ∣ gp_prod (gp_psS D.length) := Nat.dvd_of_mul_dvd_mul_left (by omega) h1
  have := gp_num (fun p hp => gp_prm_dec p ((gp_tabP _ hu).2 p hp)) h2 (gp_lam_dv k H d hk hd)
    (gp_half_card hH hs hn h3 hd) t2 t3
  omega

theorem gp_case1A {H : gp_f → Prop} {D : List Nat} {k : Nat} (hH : gp_sg H) (hs : gp_sub H (gp_sym D)) (hn : D.Nodup)
    (hl : 3 ≤ D.length) (hu : D.length < 24) (h3 : gp_no3 H) (hk : gp_lam k H)
    (h2 : ∀ d, gp_card H d → 2 * d ∣ gp_fac D.length) : k + 2 ≤ gp_g D.length := by
  obtain ⟨d, hd⟩ := gp_card_sub (gp_card_sym D hn) hs
  obtain ⟨t1, t2, t4, t3⟩ := gp_tabA D.length hu hl
  have h1 := gp_third hH hs hn hl h3 hd
  have h5 := h2 d hd
  have h6 : 6 * d ∣ gp_fac D.length := by
    obtain ⟨x, hx⟩ := h1
    obtain ⟨y, hy⟩ := h5
    have hdp := gp_card_pos hH hd
    have e : d * (3 * x) = d * (2 * y) := by
      rw [hx] at hy
      calc d * (3 * x) = 3 * d * x := by rw [Nat.mul_left_comm, Nat.mul_assoc]
        _ = 2 * d * y := hy
        _ = d * (2 * y) := by rw [Nat.mul_left_comm, Nat.mul_assoc]
    have e2 := Nat.eq_of_mul_eq_mul_left hdp e
    have e3 : ∃ z, x = 2 * z := ⟨x / 2, by omega⟩
    obtain ⟨z, rfl⟩ := e3
    refine ⟨z, ?_⟩
    rw [hx]
    calc 3 * d * (2 * z) = 3 * d * 2 * z := by rw [Nat.mul_assoc (3 * d)]
      _ = 6 * d * z := by
        have : 3 * d * 2 = 6 * d := by omega
        rw [this]
  rw [← t1] at h6
  have h7 : d ∣ gp_prod (gp_psA D.length) := Nat.dvd_of_mul_dvd_mul_left (by omega) h6
  have := gp_num (fun p hp => gp_prm_dec p ((gp_tabP _ hu).1 p hp)) h7 (gp_lam_dv k H d hk hd)
    (gp_half_card hH hs hn h3 hd) t2 t3
  omega

/-- neither none nor all: it lies in a group of short chains that has an exchange -/
theorem gp_case3 {H : gp_f → Prop} {D : List Nat} (hH : gp_sg H) (hs : gp_sub H (gp_sym D)) (hn : D.Nodup)
    (hl : 3 ≤ D.length) (hu : D.length < 24) (h3 : ¬ gp_no3 H) (hf : ¬ gp_full H D)
    (ih : ∀ E : List Nat, E.Nodup → E.length < D.length → ∀ K, gp_sg K → gp_sub K (gp_sym E) → gp_bd K (gp_g E.length)) :
    ∃ St L, gp_sg St ∧ gp_sub St (gp_sym D) ∧ gp_sub H St ∧ (∃ a b, a ∈ D ∧ b ∈ D ∧ a ≠ b ∧ St (gp_sw a b)) ∧
      gp_bd St L ∧ L + 1 ≤ gp_g D.length := by
  have h3' : ∃ a b c, gp_d3 a b c ∧ H (gp_c3 a b c) := by
    by_cases h : ∃ a b c, gp_d3 a b c ∧ H (gp_c3 a b c)
    · exact h
    · exact absurd (fun a b c hd hc => h ⟨a, b, c, hd, hc⟩) h3
  obtain ⟨a, b, c, hd, hc⟩ := h3'
  obtain ⟨haD, hbD, hcD⟩ := gp_c3_in hs hd hc
  have rr : ∀ x, gp_R H x x := fun x => gp_R_refl x
  have rs : ∀ x y, gp_R H x y → gp_R H y x := fun x y h => gp_R_symm hH h
  have rt : ∀ x y z, gp_R H x y → gp_R H y z → gp_R H x z := fun x y z h h' => gp_R_trans hH h h'
  have hab : gp_R H a b := Or.inr ⟨c, hd, hc⟩
  have hac : gp_R H a c := by
    have h1 : gp_d3 c a b := ⟨Ne.symm hd.2.2, hd.1, Ne.symm hd.2.1⟩
    have h2 : H (gp_c3 c a b) := by
      rw [gp_c3_rot h1]; exact hc
    exact rs _ _ (Or.inr ⟨b, h1, h2⟩)
  have hDc : gp_card (fun x => x ∈ D) D.length := ⟨D, hn, rfl, fun _ => Iff.rfl⟩
  obtain ⟨s, hsc⟩ := gp_card_sub (S := fun y => y ∈ D ∧ gp_R H a y) hDc (fun _ h => h.1)
  by_cases hun : ∀ x, x ∈ D → gp_card (fun y => y ∈ D ∧ gp_R H x y) s
  · -- classes of one size
    have hs3 : 3 ≤ s := by
      have h1 : gp_card (fun y => y = a ∨ y = b ∨ y = c) 3 := by
        refine ⟨[a, b, c], ?_, rfl, fun x => by simp⟩
        simp [hd.1, hd.2.1, hd.2.2]
      refine gp_card_le h1 hsc ?_
      rintro x (rfl | rfl | rfl)
      · exact ⟨haD, rr _⟩
      · exact ⟨hbD, hab⟩
      · exact ⟨hcD, hac⟩
    have hnt : ∃ x y, x ∈ D ∧ y ∈ D ∧ ¬ gp_R H x y := by
      by_cases h : ∃ x y, x ∈ D ∧ y ∈ D ∧ ¬ gp_R H x y
      · exact h
      · exfalso
        apply hf
        refine gp_tot_full hH hs (fun x y hx hy => ?_)
        by_cases h' : gp_R H x y
        · exact h'
        · exact absurd ⟨x, y, hx, hy, h'⟩ h
    obtain ⟨u, v, huD, hvD, huv⟩ := hnt
    have hsn : s < D.length := gp_card_lt (hun u huD) hDc (fun _ h => h.1) v hvD (fun h => huv h.2)
    have r1 : ∀ x y, x ∈ D → y ∈ D → gp_R H x y → gp_rep D (gp_R H) x = gp_rep D (gp_R H) y :=
      fun x y hx _ h => gp_rep_eq rr rs rt hx h
    have r2 : ∀ x, x ∈ D → gp_R H x (gp_rep D (gp_R H) x) ∧ gp_rep D (gp_R H) x ∈ D := fun x hx => gp_rep_in rr hx
    have hT : ∀ x, x ∈ D.filter (fun x => decide (gp_rep D (gp_R H) x = x)) ↔ x ∈ D ∧ gp_rep D (gp_R H) x = x := by
      intro x
      rw [List.mem_filter, decide_eq_true_iff]
    have hTn : (D.filter (fun x => decide (gp_rep D (gp_R H) x = x))).Nodup := List.Nodup.sublist List.filter_sublist hn
    generalize hTe : D.filter (fun x => decide (gp_rep D (gp_R H) x = x)) = T at hT hTn
    have hfib : ∀ y, y ∈ T → gp_card (fun x => x ∈ D ∧ gp_rep D (gp_R H) x = y) s := by
      intro y hy
      have hy2 := (hT y).1 hy
      refine gp_card_congr (hun y hy2.1) (fun x => ?_)
      constructor
      · rintro ⟨h1, h2⟩
        exact ⟨h1, by rw [← r1 y x hy2.1 h1 h2]; exact hy2.2⟩
      · rintro ⟨h1, h2⟩
        refine ⟨h1, ?_⟩
        have := (r2 x h1).1
        rw [h2] at this
        exact rs _ _ this
    have hcnt : D.length = T.length * s := gp_fib (fun x => gp_rep D (gp_R H) x) T hTn (fun x => x ∈ D) D.length hDc
      (fun x hx => (hT _).2 ⟨(r2 x hx).2, (r1 _ _ hx (r2 x hx).2 (r2 x hx).1).symm⟩) hfib
    have hT2 : 2 ≤ T.length := by
      rcases Nat.lt_or_ge T.length 2 with h | h
      · exfalso
        have : T.length = 0 ∨ T.length = 1 := by omega
        rcases this with e | e
        · rw [e] at hcnt; omega
        · rw [e] at hcnt; omega
      · exact h
    have hTl : T.length < D.length := by
      rw [hcnt]
      calc T.length < T.length * 3 := by omega
        _ ≤ T.length * s := Nat.mul_le_mul_left _ hs3
    let St : gp_f → Prop := fun g => gp_sym D g ∧ ∀ x y, x ∈ D → y ∈ D → (gp_R H x y ↔ gp_R H (g x) (g y))
    have hSt : gp_sg St := by
      refine ⟨⟨(gp_sym_sg D).1, fun x y _ _ => Iff.rfl⟩, ?_, ?_⟩
      · rintro g k ⟨hg, hg2⟩ ⟨hk, hk2⟩
        refine ⟨(gp_sym_sg D).2.1 _ _ hg hk, fun x y hx hy => ?_⟩
        exact (hk2 x y hx hy).trans (hg2 _ _ (gp_sym_mem hk hx) (gp_sym_mem hk hy))
      · rintro g ⟨hg, hg2⟩
        obtain ⟨k, hk, hi⟩ := (gp_sym_sg D).2.2 g hg
        refine ⟨k, ⟨hk, fun x y hx hy => ?_⟩, hi⟩
        have := hg2 (k x) (k y) (gp_sym_mem hk hx) (gp_sym_mem hk hy)
        rw [hi.1, hi.1] at this
        exact this.symm
    have hbd : gp_bd St (gp_g T.length + T.length * gp_g s) := by
      refine gp_bd_blocks (D := D) (T := T) (R := gp_R H) (rep := gp_rep D (gp_R H)) hSt (fun g hg => hg.1)
        (fun g hg x y hx hy h => (hg.2 x y hx hy).1 h) r1 r2 hT (ih T hTn hTl) ?_
      intro y hy K hK hKs
      have hcl : (D.filter (fun x => decide (gp_rep D (gp_R H) x = y))).length = s := by
        refine gp_card_uniq (S := fun x => x ∈ D ∧ gp_rep D (gp_R H) x = y) ?_ (hfib y hy)
        exact ⟨_, List.Nodup.sublist List.filter_sublist hn, rfl, fun x => by rw [List.mem_filter, decide_eq_true_iff]⟩
      have := ih (D.filter (fun x => decide (gp_rep D (gp_R H) x = y))) (List.Nodup.sublist List.filter_sublist hn)
        (by rw [hcl]; exact hsn) K hK hKs
      rw [hcl] at this
      exact this
    refine ⟨St, _, hSt, fun g hg => hg.1, ?_, ⟨a, b, haD, hbD, hd.1, gp_sw_sym haD hbD, ?_⟩, hbd, ?_⟩
    · intro g hg
      refine ⟨hs g hg, fun x y hx hy => ⟨fun h => gp_R_map hH hg h, fun h => ?_⟩⟩
      obtain ⟨k, hk, hi⟩ := hH.2.2 g hg
      have := gp_R_map hH hk h
      rw [hi.2, hi.2] at this
      exact this
    · have hx : ∀ x, gp_R H x (gp_sw a b x) := by
        intro x
        by_cases e1 : x = a
        · rw [e1, gp_sw_a]; exact hab
        · by_cases e2 : x = b
          · rw [e2, gp_sw_b]; exact rs _ _ hab
          · rw [gp_sw_n e1 e2]; exact rr x
      intro x y _ _
      exact ⟨fun h => rt _ _ _ (rs _ _ (hx x)) (rt _ _ _ h (hx y)), fun h => rt _ _ _ (hx x) (rt _ _ _ h (rs _ _ (hx y)))⟩
    · have h24 : s * T.length < 24 := by rw [Nat.mul_comm, ← hcnt]; exact hu
      rw [hcnt, Nat.mul_comm T.length s]
      exact gp_tab2 s (by omega) hs3 T.length (by omega) hT2 h24
  · -- classes of several sizes
    have hx0 : ∃ x, x ∈ D ∧ ¬ gp_card (fun y => y ∈ D ∧ gp_R H x y) s := by
      by_cases h : ∃ x, x ∈ D ∧ ¬ gp_card (fun y => y ∈ D ∧ gp_R H x y) s
      · exact h
      · exfalso
        apply hun
        intro x hx
        by_cases h' : gp_card (fun y => y ∈ D ∧ gp_R H x y) s
        · exact h'
        · exact absurd ⟨x, hx, h'⟩ h
    obtain ⟨x0, hx0D, hx0n⟩ := hx0
    let p : Nat → Prop := fun x => gp_card (fun y => y ∈ D ∧ gp_R H x y) s
    have hpa : p a := hsc
    have hpR : ∀ x y, gp_R H x y → p x → p y := by
      intro x y hxy hx
      exact gp_card_congr hx (fun z => ⟨fun h => ⟨h.1, rt _ _ _ (rs _ _ hxy) h.2⟩, fun h => ⟨h.1, rt _ _ _ hxy h.2⟩⟩)
    have hpb : p b := hpR a b hab hpa
    have hpm : ∀ g, H g → ∀ x, p x → p (g x) := by
      intro g hg x hx
      obtain ⟨k, hk, hi⟩ := hH.2.2 g hg
      refine gp_card_congr (gp_card_img hx g (fun y z _ _ e => gp_inv_inj hi e)) (fun y => ?_)
      constructor
      · rintro ⟨z, ⟨hz, hzR⟩, rfl⟩
        exact ⟨gp_sym_mem (hs g hg) hz, gp_R_map hH hg hzR⟩
      · rintro ⟨hy, hyR⟩
        refine ⟨k y, ⟨gp_sym_mem (hs k hk) hy, ?_⟩, hi.1 y⟩
        have := gp_R_map hH hk hyR
        rw [hi.2] at this
        exact this
    let St : gp_f → Prop := fun g => gp_sym D g ∧ ∀ x, p x ↔ p (g x)
    have hSt : gp_sg St := by
      refine ⟨⟨(gp_sym_sg D).1, fun x => Iff.rfl⟩, ?_, ?_⟩
      · rintro g k ⟨hg, hg2⟩ ⟨hk, hk2⟩
        exact ⟨(gp_sym_sg D).2.1 _ _ hg hk, fun x => (hk2 x).trans (hg2 _)⟩
      · rintro g ⟨hg, hg2⟩
        obtain ⟨k, hk, hi⟩ := (gp_sym_sg D).2.2 g hg
        refine ⟨k, ⟨hk, fun x => ?_⟩, hi⟩
        have := hg2 (k x)
        rw [hi.1] at this
        exact this.symm
    obtain ⟨n1, c1⟩ := gp_card_sub (S := fun x => x ∈ D ∧ p x) hDc (fun _ h => h.1)
    obtain ⟨n2, c2⟩ := gp_card_sub (S := fun x => x ∈ D ∧ ¬ p x) hDc (fun _ h => h.1)
    have hsum := gp_card_uniq (gp_card_add c1 c2) hDc
    obtain ⟨D1, d1n, d1l, d1m⟩ := c1
    obtain ⟨D2, d2n, d2l, d2m⟩ := c2
    have hn1 : 0 < n1 := by
      rw [← d1l]
      exact List.length_pos_of_mem ((d1m a).2 ⟨haD, hpa⟩)
    have hn2 : 0 < n2 := by
      rw [← d2l]
      exact List.length_pos_of_mem ((d2m x0).2 ⟨hx0D, hx0n⟩)
    have hbd : gp_bd St (gp_g n1 + gp_g n2) := by
      refine gp_bd_split (D := D) (D1 := D1) (D2 := D2) (p := p) hSt (fun g hg => hg.1) (fun g hg x hx => (hg.2 x).1 hx)
        (fun x hx hp => (d1m x).2 ⟨hx, hp⟩) (fun x hx hp => (d2m x).2 ⟨hx, hp⟩) ?_ ?_
      · intro K hK hKs
        have := ih D1 d1n (by rw [d1l]; omega) K hK hKs
        rw [d1l] at this
        exact this
      · intro K hK hKs
        have := ih D2 d2n (by rw [d2l]; omega) K hK hKs
        rw [d2l] at this
        exact this
    refine ⟨St, _, hSt, fun g hg => hg.1, ?_, ⟨a, b, haD, hbD, hd.1, gp_sw_sym haD hbD, fun x => ?_⟩, hbd, ?_⟩
    · intro g hg
      refine ⟨hs g hg, fun x => ⟨hpm g hg x, fun h => ?_⟩⟩
      obtain ⟨k, hk, hi⟩ := hH.2.2 g hg
      have := hpm k hk _ h
      rw [hi.2] at this
      exact this
    · by_cases e1 : x = a
      · rw [e1, gp_sw_a]; exact ⟨fun _ => hpb, fun _ => hpa⟩
      · by_cases e2 : x = b
        · rw [e2, gp_sw_b]; exact ⟨fun _ => hpa, fun _ => hpb⟩
        · rw [gp_sw_n e1 e2]
    · have := gp_tab1 D.length hu hl n1 (by omega) hn1
      have e : D.length - n1 = n2 := by omega
      rw [e] at this
      exact this

theorem gp_small {D : List Nat} {H : gp_f → Prop} {k : Nat} (hn : D.Nodup) (hl : D.length < 3) (hs : gp_sub H (gp_sym D))
    (hk : gp_lam k H) : k ≤ gp_g D.length := by
  obtain ⟨d, hd⟩ := gp_card_sub (gp_card_sym D hn) hs
  have h1 := gp_lag (gp_lam_sg hk) (gp_sym_sg D) hs hd (gp_card_sym D hn)
  have h2 := gp_lam_dv k H d hk hd
  have h4 : ∀ p, p ∈ ([2] : List Nat) → gp_prm p := by
    intro p hp
    exact gp_prm_dec p (by simp at hp; rw [hp]; decide)
  have hcase : D.length = 0 ∨ D.length = 1 ∨ D.length = 2 := by omega
  rcases hcase with e | e | e
  · rw [e] at h1 ⊢
    have : d = 1 := Nat.dvd_one.1 h1
    exact gp_dv_list k d [] (fun p hp => absurd hp (List.not_mem_nil)) this.symm h2
  · rw [e] at h1 ⊢
    have : d = 1 := Nat.dvd_one.1 h1
    exact gp_dv_list k d [] (fun p hp => absurd hp (List.not_mem_nil)) this.symm h2
  · rw [e] at h1 ⊢
    obtain ⟨qs, q1, q2⟩ := gp_div_list [2] h4 d h1
    have := gp_dv_list k d qs (fun p hp => h4 p (q1.subset hp)) q2 h2
    have h5 := q1.length_le
    have h6 : gp_g 2 = 1 := rfl
    simp at h5
    omega

theorem gp_main : ∀ (n : Nat) (D : List Nat), D.length = n → n < 24 → D.Nodup → ∀ H, gp_sg H → gp_sub H (gp_sym D) →
    gp_bd H (gp_g n) := by
  intro n
  induction n using Nat.strongRecOn with
  | _ n ihn =>
    intro D hDl hu hn H hH hs k hk
    subst hDl
    by_cases hl : 3 ≤ D.length
    · have ih : ∀ E : List Nat, E.Nodup → E.length < D.length → ∀ K, gp_sg K → gp_sub K (gp_sym E) →
          gp_bd K (gp_g E.length) := fun E hE hlt K hK hKs => ihn E.length hlt E rfl (by omega) hE K hK hKs
      -- a group that isn't full
      have nf : ∀ (K : gp_f → Prop) (j : Nat), gp_sub K (gp_sym D) → gp_lam j K → ¬ gp_full K D → j + 1 ≤ gp_g D.length := by
        intro K j hKs hj hnf
        have hK := gp_lam_sg hj
        by_cases h3 : gp_no3 K
        · exact gp_case1S hK hKs hn hl hu h3 hj
        · obtain ⟨St, L, hSt, _, hKSt, _, hb, hL⟩ := gp_case3 hK hKs hn hl hu h3 hnf ih
          have := hb j (gp_lam_mono hj hKSt hSt)
          omega
      by_cases hfH : gp_full H D
      · cases k with
        | zero => exact Nat.zero_le _
        | succ j =>
          obtain ⟨_, K, hj, hKH, x, hx, hnx⟩ := hk
          have hKs : gp_sub K (gp_sym D) := fun g hg => hs g (hKH g hg)
          by_cases hfK : gp_full K D
          · have hK := gp_lam_sg hj
            have hne : ¬ ∀ s, gp_sym D s → K s := fun h => hnx (h x (hs x hx))
            have h2 : 2 ≤ gp_g D.length := (gp_tabA D.length hu hl).2.2.1
            cases j with
            | zero => omega
            | succ i =>
              obtain ⟨_, K', hi, hKK, y, hy, hny⟩ := hj
              have hK' := gp_lam_sg hi
              have hK's : gp_sub K' (gp_sym D) := fun g hg => hKs g (hKK g hg)
              have hnf : ¬ gp_full K' D := by
                intro hf'
                apply hne
                exact gp_full_up hn hK' hK hf' hKK hKs hy hny
              by_cases h3 : gp_no3 K'
              · have : i + 2 ≤ gp_g D.length := gp_case1A hK' hK's hn hl hu h3 hi (by
                  intro d hd
                  obtain ⟨m, hm⟩ := gp_card_sub (gp_card_sym D hn) hKs
                  have h5 := gp_lag hK' hK hKK hd hm
                  have hab : ∃ a b, a ∈ D ∧ b ∈ D ∧ a ≠ b := by
                    match D, hn, hl with
                    | a :: b :: D', hn, _ =>
                      simp only [List.nodup_cons, List.mem_cons, not_or] at hn
                      exact ⟨a, b, by simp, by simp, hn.1.1⟩
                  obtain ⟨a, b, ha, hb, hab⟩ := hab
                  rw [← gp_full_card hn hK hfK hKs hne ha hb hab hm]
                  exact Nat.mul_dvd_mul_left 2 h5)
                omega
              · obtain ⟨St, L, hSt, _, hKSt, ⟨a, b, ha, hb, hab, hsw⟩, hbd, hL⟩ := gp_case3 hK' hK's hn hl hu h3 hnf ih
                have := gp_bd_lt hbd hi ⟨hKSt, gp_sw a b, hsw, fun h => gp_full_no hn hK hfK hne ha hb hab (hKK _ h)⟩ hSt
                omega
          · have := nf K j hKs hj hfK
            omega
      · have := nf H k hs hk hfH
        omega
    · exact gp_small hn (by omega) hs hk

/-- the longest chain of groups on a set of at most 23 places -/
theorem gp_chain {D : List Nat} (hn : D.Nodup) (hu : D.length < 24) {H : gp_f → Prop} {k : Nat}
    (hs : gp_sub H (gp_sym D)) (hk : gp_lam k H) : k ≤ D.length * 3 / 2 :=
  Nat.le_trans (gp_main D.length D rfl hu hn H (gp_lam_sg hk) hs k hk) (gp_tab3 _ hu)

end
