/-! How many there are: a group by where it puts a place, and by the chain. Pure. -/
section

theorem gp_orb_stab {G : gp_f → Prop} (hG : gp_sg G) {p a o b : Nat} (ha : gp_card G a)
    (ho : gp_card (fun q => ∃ x, G x ∧ x p = q) o) (hb : gp_card (fun x => G x ∧ x p = p) b) : a = o * b := by
  obtain ⟨l, hn, hl, hm⟩ := ho
  have := gp_fib (fun x : gp_f => x p) l hn G a ha (fun x hx => (hm _).2 ⟨x, hx, rfl⟩) (m := b) (by
    intro q hq
    obtain ⟨y, hy, hyq⟩ := (hm q).1 hq
    obtain ⟨y', hy', hi⟩ := hG.2.2 y hy
    refine gp_card_congr (gp_card_img hb (fun x => y ∘ x) ?_) (fun z => ?_)
    · intro x z _ _ e
      funext r
      exact gp_inv_inj hi (congrFun e r)
    · constructor
      · rintro ⟨x, ⟨hx, hxp⟩, rfl⟩
        refine ⟨hG.2.1 _ _ hy hx, ?_⟩
        show y (x p) = q
        rw [hxp, hyq]
      · rintro ⟨hz, hzq⟩
        refine ⟨y' ∘ z, ⟨hG.2.1 _ _ hy' hz, ?_⟩, ?_⟩
        · show y' (z p) = p
          rw [hzq, ← hyq, hi.2]
        · funext r
          exact hi.1 (z r))
  rw [this, hl]

/-- sn i ... sn (i + k - 1), multiplied -/
def ch_pr (sn : Nat → Nat) : Nat → Nat → Nat
  | _, 0 => 1
  | i, k + 1 => sn i * ch_pr sn (i + 1) k

theorem ch_pr_last (sn : Nat → Nat) : ∀ (k i : Nat), ch_pr sn i (k + 1) = ch_pr sn i k * sn (i + k) := by
  intro k
  induction k with
  | zero => intro i; simp [ch_pr]
  | succ k ih =>
    intro i
    show sn i * ch_pr sn (i + 1) (k + 1) = sn i * ch_pr sn (i + 1) k * sn (i + (k + 1))
    rw [ih (i + 1), Nat.mul_assoc]
    have : i + 1 + k = i + (k + 1) := by omega
    rw [this]

section
variable {n : Nat} {gs : Nat → List gp_f} {pr : Nat → Nat → Nat} {sn : Nat → Nat} {sp : Nat → Nat → Nat}
  {wb : Nat → Nat → gp_f}

theorem ch_card (h : ch_ok n gs pr sn sp wb) (hd : ∀ i, i < n → ch_done gs pr sn i) : ∀ k i, i + k = n →
    gp_card (ch_G (gs i)) (ch_pr sn i k) := by
  intro k
  induction k with
  | zero =>
    intro i hi
    have : i = n := by omega
    subst this
    rw [h.1]
    refine ⟨[id], by simp, rfl, fun x => ?_⟩
    rw [List.mem_singleton]
    constructor
    · intro e; rw [e]; exact gp_gen_id
    · intro hx
      exact gp_gen_min (M := fun x => x = id) rfl (fun t _ ht _ => absurd ht (List.not_mem_nil)) x hx
  | succ k ih =>
    intro i hi
    have hin : i < n := by omega
    obtain ⟨a, ha⟩ := gp_card_sub (gp_card_sym (ch_D n i) (ch_D_nodup n i)) (ch_in_sym h (Nat.le_of_lt hin))
    have h1 := ih (i + 1) (by omega)
    have h2 : gp_card (fun x => ch_G (gs i) x ∧ x i = i) (ch_pr sn (i + 1) k) :=
      gp_card_congr h1 (ch_stab h hin (hd i hin))
    have h3 : gp_card (fun q => ∃ x, ch_G (gs i) x ∧ x i = q) (sn i) := by
      have hl := (h.2 i hin).1
      refine ⟨(List.range (sn i)).map (sp i), ?_, ?_, fun q => ?_⟩
      · refine gp_nodup_map List.nodup_range (fun s t hs ht e => ?_)
        exact hl.2.2.2.2.2 s t (List.mem_range.1 hs) (List.mem_range.1 ht) e
      · rw [List.length_map, List.length_range]
      · rw [List.mem_map]
        refine Iff.trans ?_ (ch_spread h hin (hd i hin) q)
        constructor
        · rintro ⟨s, hs, e⟩; exact ⟨s, List.mem_range.1 hs, e⟩
        · rintro ⟨s, hs, e⟩; exact ⟨s, List.mem_range.2 hs, e⟩
    have h4 := gp_orb_stab (ch_sg h (Nat.le_of_lt hin)) ha h3 h2
    rw [h4] at ha
    exact ha

end

end
