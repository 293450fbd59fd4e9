/-! Pure: the ring that a walk back makes. -/
section
/-- z 0 .. z c: each is led back to the next by its edge -/
def jf_G (us lo hi : Nat → Nat) (b : Nat) (sn by' dep : Nat → Nat) (a : Nat) (z : Nat → Nat) (c : Nat) : Prop :=
  z 0 = a ∧ z c < 24 ∧ sn (z c) = 1 ∧ c + dep (z c) < 24 ∧
  ∀ i, i < c → z i < 24 ∧ sn (z i) = 1 ∧ z i ≠ b ∧ dep (z (i + 1)) < dep (z i) ∧
    ∃ e, by' (z i) = e + 1 ∧ e < 24 ∧ us e = 1 ∧ jf_J lo hi e (z (i + 1)) (z i) ∧ ∀ e2, e2 < e → us e2 = 1 → ¬ jf_J lo hi e2 (z (i + 1)) (z i)

theorem jf_G0 {us lo hi sn by' dep z : Nat → Nat} {a b : Nat} (h : jf_B us lo hi b sn by' dep) (ha : a < 24) (hs : sn a = 1) :
    jf_G us lo hi b sn by' dep a (va_up z 0 a) 0 := by
  refine ⟨va_up_self _ _ _, by rw [va_up_self]; exact ha, by rw [va_up_self]; exact hs, ?_, fun i hi => absurd hi (Nat.not_lt_zero _)⟩
  rw [va_up_self]
  have := h.2.2.2.2.1 a ha hs
  omega
theorem jf_Gs {us lo hi sn by' dep z : Nat → Nat} {a b c e p : Nat} (h : jf_G us lo hi b sn by' dep a z c) (hb : z c ≠ b)
    (he : by' (z c) = e + 1) (he2 : e < 24) (hu : us e = 1) (hj : jf_J lo hi e p (z c)) (hl : ∀ e2, e2 < e → us e2 = 1 → ¬ jf_J lo hi e2 p (z c)) (hp : p < 24) (hp1 : sn p = 1)
    (hd : dep p < dep (z c)) : jf_G us lo hi b sn by' dep a (va_up z (c + 1) p) (c + 1) := by
  obtain ⟨h1, h2, h3, h4, h5⟩ := h
  have o : ∀ i, i ≤ c → va_up z (c + 1) p i = z i := fun i hi => va_up_ne _ _ (by omega)
  refine ⟨by rw [o 0 (by omega)]; exact h1, by rw [va_up_self]; exact hp, by rw [va_up_self]; exact hp1, by rw [va_up_self]; omega, fun i hi => ?_⟩
  by_cases e0 : i = c
  · subst e0
    rw [o i (Nat.le_refl _), va_up_self]
    exact ⟨h2, h3, hb, hd, e, he, he2, hu, hj, hl⟩
  · rw [o i (by omega), o (i + 1) (by omega)]
    exact h5 i (by omega)
theorem jf_G_dep {us lo hi sn by' dep z : Nat → Nat} {a b c : Nat} (h : jf_G us lo hi b sn by' dep a z c) : ∀ j i, i < j → j ≤ c → dep (z j) < dep (z i)
  | 0, _, hi, _ => absurd hi (Nat.not_lt_zero _)
  | j + 1, i, hi, hj => by
    have h1 := (h.2.2.2.2 j (by omega)).2.2.2.1
    by_cases e0 : i = j
    · rw [e0]; exact h1
    · have := jf_G_dep h j i (by omega) (by omega)
      omega
theorem jf_G_inj {us lo hi sn by' dep z : Nat → Nat} {a b c : Nat} (h : jf_G us lo hi b sn by' dep a z c) {i j : Nat} (hi : i ≤ c) (hj : j ≤ c) (e : z i = z j) : i = j := by
  rcases Nat.lt_trichotomy i j with q | q | q
  · have := jf_G_dep h j i q hj; rw [e] at this; omega
  · exact q
  · have := jf_G_dep h i j q hi; rw [e] at this; omega
theorem jf_G_24 {us lo hi sn by' dep z : Nat → Nat} {a b c : Nat} (h : jf_G us lo hi b sn by' dep a z c) {i : Nat} (hi : i ≤ c) : z i < 24 := by
  by_cases e0 : i = c
  · rw [e0]; exact h.2.1
  · exact (h.2.2.2.2 i (by omega)).1
/-- an edge of the ring is at one place of it alone -/
theorem jf_G_edge {us lo hi sn by' dep z : Nat → Nat} {a b c : Nat} (h : jf_G us lo hi b sn by' dep a z c) {i j e : Nat} (hi2 : i < c) (hj2 : j < c) (hi : by' (z i) = e + 1) (hj : by' (z j) = e + 1) : i = j := by
  obtain ⟨_, _, _, _, e1, a1, a2, a3, a4, _⟩ := h.2.2.2.2 i hi2
  obtain ⟨_, _, _, _, e2, b1, b2, b3, b4, _⟩ := h.2.2.2.2 j hj2
  have q1 : e1 = e := by omega
  have q2 : e2 = e := by omega
  rw [q1] at a4
  rw [q2] at b4
  have k1 : z i = z j ∨ (z i = z (j + 1) ∧ z (i + 1) = z j) := by
    rcases a4 with ⟨x1, x2⟩ | ⟨x1, x2⟩ <;> rcases b4 with ⟨y1, y2⟩ | ⟨y1, y2⟩
    · left; omega
    · right; constructor <;> omega
    · right; constructor <;> omega
    · left; omega
  rcases k1 with k | ⟨k2, k3⟩
  · exact jf_G_inj h (by omega) (by omega) k
  · have := jf_G_inj h (by omega) (by omega) k2
    have := jf_G_inj h (by omega) (by omega) k3
    omega
theorem jf_ix {q c k : Nat} (hq : q < c) (hk : k < c + 1) :
    (q + (c + 1) - k - 1 + (c + 1)) % (c + 1) = (q + (c + 1) - (k + 1)) % (c + 1) ∧ (q + (c + 1) - k) % (c + 1) < c + 1 ∧ (q + (c + 1) - (k + 1)) % (c + 1) < c + 1 ∧
    (k = q → (q + (c + 1) - k) % (c + 1) = 0 ∧ (q + (c + 1) - (k + 1)) % (c + 1) = c) ∧
    (k ≠ q → (q + (c + 1) - k) % (c + 1) = (q + (c + 1) - (k + 1)) % (c + 1) + 1 ∧ (q + (c + 1) - (k + 1)) % (c + 1) < c ∧ ((q + (c + 1) - (k + 1)) % (c + 1) = q ↔ k = c)) := by
  have md : ∀ x, x < c + 1 → x % (c + 1) = x := fun x hx => Nat.mod_eq_of_lt hx
  have ma : ∀ x, (x + (c + 1)) % (c + 1) = x % (c + 1) := fun x => Nat.add_mod_right x (c + 1)
  refine ⟨by rw [ma, Nat.sub_sub], Nat.mod_lt _ (by omega), Nat.mod_lt _ (by omega), fun e => ?_, fun e => ?_⟩
  · subst e
    rw [show k + (c + 1) - k = 0 + (c + 1) by omega, ma, md 0 (by omega), show k + (c + 1) - (k + 1) = c by omega, md c (by omega)]
    exact ⟨rfl, rfl⟩
  · rcases Nat.lt_or_gt_of_ne e with h | h
    · rw [show q + (c + 1) - k = (q - k) + (c + 1) by omega, ma, md (q - k) (by omega), show q + (c + 1) - (k + 1) = (q - k - 1) + (c + 1) by omega, ma, md (q - k - 1) (by omega)]
      omega
    · rw [md (q + (c + 1) - k) (by omega), md (q + (c + 1) - (k + 1)) (by omega)]
      omega
theorem jf_m_le {n : Nat} {us lo hi : Nat → Nat} {la : Nat → gp_f} (hn : n ≤ 24) (h : jf_I n us lo hi la) : jf_m us lo ≤ 24 * 24 := by
  have h1 := su_mono (F := fun _ => 24) (F2 := fun e => us e * lo e) 24 (fun e he => by
    show us e * lo e ≤ 24
    rcases h.1 e with q | q
    · rw [q, Nat.zero_mul]; omega
    · obtain ⟨_, v1, v2, _, _⟩ := h.2.1 e he q
      rw [q, Nat.one_mul]; omega)
  have h2 := su_le (F := fun _ => 24) (m := 24) (fun _ => Nat.le_refl _) 24
  exact Nat.le_trans h1 h2
/-- the least place moved: where it goes is behind it -/
theorem jf_lm {n : Nat} {w : gp_f} {a : Nat} (hw : gp_sym (ch_D n 0) w) (ha : w a ≠ a) (hf : ∀ p, p < a → w p = p) : a < n ∧ a < w a ∧ w a < n := by
  obtain ⟨⟨v, hv⟩, hD⟩ := id hw
  have h1 : a < n := by
    rcases Nat.lt_or_ge a n with q | q
    · exact q
    · exact absurd (hD a (fun hm => by have := (ch_D_mem.1 hm).2; omega)) ha
  have h2 := (ch_D_mem.1 (gp_sym_mem hw (ch_D_mem.2 ⟨Nat.zero_le _, h1⟩))).2
  refine ⟨h1, ?_, h2⟩
  rcases Nat.lt_or_ge a (w a) with q | q
  · exact q
  · exact absurd (gp_inv_inj hv (hf (w a) (by omega))) ha
end
