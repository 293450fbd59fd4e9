/-! Pure: sums; sets with a root; edges with labels (the reference's way to few rows). -/
section

theorem su_mono {F F2 : Nat → Nat} : ∀ n, (∀ i, i < n → F2 i ≤ F i) → su F2 n ≤ su F n
  | 0, _ => Nat.le_refl _
  | n + 1, h => by
    have h1 := su_mono n (fun i hi => h i (by omega))
    have h2 := h n (by omega)
    show su F2 n + F2 n ≤ su F n + F n
    omega
theorem su_lt {F F2 : Nat → Nat} {j : Nat} : ∀ n, (∀ i, i < n → F2 i ≤ F i) → j < n → F2 j < F j → su F2 n < su F n
  | 0, _, hj, _ => absurd hj (Nat.not_lt_zero _)
  | n + 1, h, hj, hl => by
    show su F2 n + F2 n < su F n + F n
    have h2 := h n (by omega)
    by_cases e : j = n
    · subst e
      have h1 := su_mono j (fun i hi => h i (by omega))
      omega
    · have h1 := su_lt (j := j) n (fun i hi => h i (by omega)) (by omega) hl
      omega
theorem su_up {F : Nat → Nat} {s v : Nat} : ∀ n, (s < n → su (va_up F s v) n + F s = su F n + v) ∧ (n ≤ s → su (va_up F s v) n = su F n)
  | 0 => ⟨fun h => absurd h (Nat.not_lt_zero _), fun _ => rfl⟩
  | n + 1 => by
    have ih := su_up (F := F) (s := s) (v := v) n
    refine ⟨fun h => ?_, fun h => ?_⟩
    · show su (va_up F s v) n + va_up F s v n + F s = su F n + F n + v
      by_cases e : n = s
      · subst e
        have := ih.2 (Nat.le_refl _)
        rw [va_up_self]; omega
      · have := ih.1 (by omega)
        rw [va_up_ne _ _ e]; omega
    · show su (va_up F s v) n + va_up F s v n = su F n + F n
      have := ih.2 (by omega)
      rw [va_up_ne _ _ (by omega)]; omega
theorem su_one : ∀ n, su (fun _ => 1) n = n
  | 0 => rfl
  | n + 1 => by show su (fun _ => 1) n + 1 = n + 1; rw [su_one n]
theorem su_room {F : Nat → Nat} {q n : Nat} (h : ∀ i, F i = 0 ∨ F i = 1) (hq : q < n) (h0 : F q = 0) : su F n < n := by
  have := su_lt (F := fun _ => 1) (F2 := F) (j := q) n (fun i _ => by rcases h i with e | e <;> rw [e] <;> omega) hq (by show F q < 1; omega)
  rwa [su_one] at this
theorem su_free {F : Nat → Nat} (h : ∀ i, F i = 0 ∨ F i = 1) : ∀ n, su F n < n → ∃ q, q < n ∧ F q = 0
  | 0, hh => absurd hh (Nat.not_lt_zero _)
  | n + 1, hh => by
    have hh : su F n + F n < n + 1 := hh
    rcases h n with e | e
    · exact ⟨n, by omega, e⟩
    · obtain ⟨q, h1, h2⟩ := su_free h n (by omega)
      exact ⟨q, by omega, h2⟩

/-- each place's set is named by its least place -/
def bk_rep (z : Nat → Nat) : Prop := ∀ p, z p ≤ p ∧ z (z p) = z p
def bk_rt (z : Nat → Nat) (n : Nat) : Nat := su (fun p => if z p = p then 1 else 0) n

theorem bk_join {z : Nat → Nat} {n a b : Nat} (hz : bk_rep z) (ha : a < n) (hb : b < n) :
    bk_rep (pt_join z a b) ∧ bk_rt (pt_join z a b) n + (if z a = z b then 0 else 1) ≤ bk_rt z n := by
  have hm : z (min (z a) (z b)) = min (z a) (z b) := by
    rcases Nat.le_total (z a) (z b) with q | q
    · rw [Nat.min_eq_left q]; exact (hz a).2
    · rw [Nat.min_eq_right q]; exact (hz b).2
  have hM : z (max (z a) (z b)) = max (z a) (z b) := by
    rcases Nat.le_total (z a) (z b) with q | q
    · rw [Nat.max_eq_right q]; exact (hz b).2
    · rw [Nat.max_eq_left q]; exact (hz a).2
  have za := (hz a).1
  have zb := (hz b).1
  have e0 : ∀ p, z p = max (z a) (z b) → pt_join z a b p = min (z a) (z b) := fun p h => if_pos h
  have e1 : ∀ p, z p ≠ max (z a) (z b) → pt_join z a b p = z p := fun p h => if_neg h
  refine ⟨fun p => ?_, ?_⟩
  · by_cases h : z p = max (z a) (z b)
    · have := (hz p).1
      refine ⟨by rw [e0 p h]; omega, ?_⟩
      rw [e0 p h]
      by_cases h2 : z (min (z a) (z b)) = max (z a) (z b)
      · rw [e0 _ h2]
      · rw [e1 _ h2, hm]
    · refine ⟨by rw [e1 p h]; exact (hz p).1, ?_⟩
      rw [e1 p h, e1 _ (by rw [(hz p).2]; exact h), (hz p).2]
  · by_cases h : z a = z b
    · rw [if_pos h, pt_join_same h]; exact Nat.le_refl _
    · rw [if_neg h]
      have hlt := su_lt (F := fun p => if z p = p then 1 else 0) (F2 := fun p => if pt_join z a b p = p then 1 else 0) (j := max (z a) (z b)) n (fun p _ => by
          show (if pt_join z a b p = p then 1 else 0) ≤ (if z p = p then 1 else 0)
          by_cases h3 : pt_join z a b p = p
          · rw [if_pos h3]
            by_cases h4 : z p = max (z a) (z b)
            · have h5 := e0 p h4
              have h6 : z p = p := by rw [← h3, h5, hm]
              rw [if_pos h6]; exact Nat.le_refl _
            · have h5 := e1 p h4
              rw [if_pos (by omega)]; exact Nat.le_refl _
          · rw [if_neg h3]; exact Nat.zero_le _) (by omega) (by
          show (if pt_join z a b (max (z a) (z b)) = max (z a) (z b) then 1 else 0) < (if z (max (z a) (z b)) = max (z a) (z b) then 1 else 0)
          rw [e0 _ hM, if_pos hM, if_neg (by omega)]; exact Nat.zero_lt_one)
      exact hlt

theorem bk_im1 {m z : Nat → Nat} {n : Nat} (hz : bk_rep z) (hm : ∀ p, p < n → m p < n) : ∀ k, k ≤ n →
    bk_rep (pt_im1 m z k).1 ∧ bk_rt (pt_im1 m z k).1 n + (if (pt_im1 m z k).2 then 1 else 0) ≤ bk_rt z n
  | 0, _ => ⟨hz, Nat.le_refl _⟩
  | k + 1, hk => by
    obtain ⟨h1, h2⟩ := bk_im1 hz hm k (by omega)
    have hk1 := (h1 k).1
    obtain ⟨h3, h4⟩ := bk_join (n := n) h1 (hm k (by omega)) (hm ((pt_im1 m z k).1 k) (by omega))
    refine ⟨h3, ?_⟩
    have e : (pt_im1 m z (k + 1)).2 = ((pt_im1 m z k).2 || decide (¬ (pt_im1 m z k).1 (m k) = (pt_im1 m z k).1 (m ((pt_im1 m z k).1 k)))) := rfl
    have e2 : bk_rt (pt_im1 m z (k + 1)).1 n = bk_rt (pt_join (pt_im1 m z k).1 (m k) (m ((pt_im1 m z k).1 k))) n := rfl
    rw [e, e2]
    by_cases h5 : (pt_im1 m z k).1 (m k) = (pt_im1 m z k).1 (m ((pt_im1 m z k).1 k))
    · rw [if_pos h5] at h4
      rw [decide_eq_false (by simp [h5]), Bool.or_false]
      omega
    · rw [if_neg h5] at h4
      rw [decide_eq_true h5, Bool.or_true, if_pos rfl]
      have : 0 ≤ (if (pt_im1 m z k).2 then 1 else 0) := Nat.zero_le _
      omega
theorem bk_rnd {mv : Nat → Nat → Nat} {z : Nat → Nat} {n : Nat} (hz : bk_rep z) : ∀ c, (∀ i, i < c → ∀ p, p < n → mv i p < n) →
    bk_rep (pt_rnd mv n z c).1 ∧ bk_rt (pt_rnd mv n z c).1 n + (if (pt_rnd mv n z c).2 then 1 else 0) ≤ bk_rt z n
  | 0, _ => ⟨hz, Nat.le_refl _⟩
  | c + 1, hm => by
    obtain ⟨h1, h2⟩ := bk_rnd hz c (fun i hi => hm i (by omega))
    obtain ⟨h3, h4⟩ := bk_im1 (n := n) h1 (hm c (by omega)) n (Nat.le_refl _)
    refine ⟨h3, ?_⟩
    have e : (pt_rnd mv n z (c + 1)).2 = ((pt_rnd mv n z c).2 || (pt_im1 (mv c) (pt_rnd mv n z c).1 n).2) := rfl
    have e2 : bk_rt (pt_rnd mv n z (c + 1)).1 n = bk_rt (pt_im1 (mv c) (pt_rnd mv n z c).1 n).1 n := rfl
    rw [e, e2]
    cases h5 : (pt_rnd mv n z c).2 <;> cases h6 : (pt_im1 (mv c) (pt_rnd mv n z c).1 n).2 <;> rw [h5] at h2 <;> rw [h6] at h4 <;> simp at h2 h4 ⊢ <;> omega
theorem bk_pos {z : Nat → Nat} {n : Nat} (hz : bk_rep z) (hn : 0 < n) : 0 < bk_rt z n := by
  have := su_lt (F := fun p => if z p = p then 1 else 0) (F2 := fun _ => 0) (j := 0) n (fun _ _ => Nat.zero_le _) hn (by
    show 0 < (if z 0 = 0 then 1 else 0)
    rw [if_pos (by have := (hz 0).1; omega)]; exact Nat.zero_lt_one)
  rw [su_zero n (fun _ _ => rfl)] at this
  exact this
theorem bk_le (z : Nat → Nat) (n : Nat) : bk_rt z n ≤ n := by
  have := su_le (F := fun p => if z p = p then 1 else 0) (m := 1) (fun i => by split <;> omega) n
  unfold bk_rt; omega

/-! Edges: slot e is used where us e = 1; it joins lo e and hi e, its label is la e. -/
def jf_J (lo hi : Nat → Nat) (e p q : Nat) : Prop := (lo e = p ∧ hi e = q) ∨ (lo e = q ∧ hi e = p)
def jf_V (n : Nat) (us lo hi : Nat → Nat) (la : Nat → gp_f) : Prop := ∀ e, e < 24 → us e = 1 →
  gp_sym (ch_D n 0) (la e) ∧ lo e < hi e ∧ hi e < n ∧ la e (lo e) = hi e ∧ ∀ p, p < lo e → la e p = p
def jf_cn (us lo hi : Nat → Nat) (p q : Nat) : Prop := ∀ S : Nat → Prop, S p → (∀ e, e < 24 → us e = 1 → (S (lo e) ↔ S (hi e))) → S q
def jf_F (us lo hi : Nat → Nat) : Prop := ∃ R : List Nat, R.length + su us 24 = 24 ∧ ∀ p, p < 24 → ∃ r, r ∈ R ∧ jf_cn us lo hi r p
def jf_I (n : Nat) (us lo hi : Nat → Nat) (la : Nat → gp_f) : Prop := (∀ e, us e = 0 ∨ us e = 1) ∧ jf_V n us lo hi la ∧ jf_F us lo hi
def jf_T (us : Nat → Nat) (la : Nat → gp_f) (t : gp_f) : Prop := ∃ e, e < 24 ∧ us e = 1 ∧ t = la e
def jf_K (us : Nat → Nat) (la : Nat → gp_f) (w : gp_f) : gp_f → Prop := gp_gen (fun t => jf_T us la t ∨ t = w)
def jf_m (us lo : Nat → Nat) : Nat := su (fun e => us e * lo e) 24

theorem jf_cn_refl (us lo hi : Nat → Nat) (p : Nat) : jf_cn us lo hi p p := fun _ h _ => h
theorem jf_cn_trans {us lo hi : Nat → Nat} {p q r : Nat} (h1 : jf_cn us lo hi p q) (h2 : jf_cn us lo hi q r) : jf_cn us lo hi p r :=
  fun S hp hc => h2 S (h1 S hp hc) hc
theorem jf_cn_symm {us lo hi : Nat → Nat} {p q : Nat} (h : jf_cn us lo hi p q) : jf_cn us lo hi q p :=
  h (fun x => jf_cn us lo hi x p) (jf_cn_refl us lo hi p) (fun e he hu =>
    ⟨fun h1 S hs hc => h1 S ((hc e he hu).2 hs) hc, fun h1 S hs hc => h1 S ((hc e he hu).1 hs) hc⟩)
theorem jf_cn_edge {us lo hi : Nat → Nat} {e : Nat} (he : e < 24) (hu : us e = 1) : jf_cn us lo hi (lo e) (hi e) :=
  fun _ hs hc => (hc e he hu).1 hs
theorem jf_cn_J {us lo hi : Nat → Nat} {e p q : Nat} (he : e < 24) (hu : us e = 1) (hj : jf_J lo hi e p q) : jf_cn us lo hi p q := by
  rcases hj with ⟨rfl, rfl⟩ | ⟨rfl, rfl⟩
  · exact jf_cn_edge he hu
  · exact jf_cn_symm (jf_cn_edge he hu)
theorem jf_cn_mono {us lo hi us2 lo2 hi2 : Nat → Nat} {p q : Nat} (hm : ∀ e, e < 24 → us e = 1 → jf_cn us2 lo2 hi2 (lo e) (hi e))
    (h : jf_cn us lo hi p q) : jf_cn us2 lo2 hi2 p q :=
  h (fun x => jf_cn us2 lo2 hi2 p x) (jf_cn_refl _ _ _ p) (fun e he hu =>
    ⟨fun h1 => jf_cn_trans h1 (hm e he hu), fun h1 => jf_cn_trans h1 (jf_cn_symm (hm e he hu))⟩)

theorem jf_F0 {us lo hi : Nat → Nat} (h : ∀ e, e < 24 → us e = 0) : jf_F us lo hi :=
  ⟨List.range 24, by rw [List.length_range, su_zero 24 h], fun p hp => ⟨p, List.mem_range.2 hp, jf_cn_refl _ _ _ p⟩⟩
theorem jf_F_lt {us lo hi : Nat → Nat} (h : jf_F us lo hi) : su us 24 < 24 := by
  obtain ⟨R, h1, h2⟩ := h
  obtain ⟨r, hr, _⟩ := h2 0 (by omega)
  have : 0 < R.length := List.length_pos_of_mem hr
  omega

section
variable {us lo hi : Nat → Nat} {s a b : Nat}
theorem jf_old (hs0 : us s = 0) {e : Nat} (hu : us e = 1) : e ≠ s := fun h => by rw [h, hs0] at hu; exact absurd hu (by decide)
theorem jf_put_F (h : jf_F us lo hi) (hs : s < 24) (hs0 : us s = 0) (ha : a < 24) (hb : b < 24) (hn : ¬ jf_cn us lo hi b a) :
    jf_F (va_up us s 1) (va_up lo s a) (va_up hi s b) := by
  obtain ⟨R, h1, h2⟩ := h
  obtain ⟨ra, hra, ca⟩ := h2 a ha
  obtain ⟨rb, hrb, cb⟩ := h2 b hb
  have hne : ra ≠ rb := fun e => hn (jf_cn_trans (jf_cn_symm cb) (e ▸ ca))
  have mono : ∀ {p q}, jf_cn us lo hi p q → jf_cn (va_up us s 1) (va_up lo s a) (va_up hi s b) p q := fun h => jf_cn_mono (fun e he hu => by
    have ne := jf_old hs0 hu
    have := jf_cn_edge (us := va_up us s 1) (lo := va_up lo s a) (hi := va_up hi s b) he (by rw [va_up_ne _ _ ne]; exact hu)
    rwa [va_up_ne _ _ ne, va_up_ne _ _ ne] at this) h
  have eab := jf_cn_edge (us := va_up us s 1) (lo := va_up lo s a) (hi := va_up hi s b) hs (va_up_self _ _ _)
  rw [va_up_self, va_up_self] at eab
  refine ⟨R.erase rb, ?_, fun p hp => ?_⟩
  · have := (su_up (F := us) (s := s) (v := 1) 24).1 hs
    have h3 := List.length_erase_of_mem hrb
    have h4 : 0 < R.length := List.length_pos_of_mem hrb
    rw [h3]; omega
  · obtain ⟨r, hr, hc⟩ := h2 p hp
    by_cases e : r = rb
    · rw [e] at hc
      exact ⟨ra, (List.mem_erase_of_ne hne).2 hra, jf_cn_trans (mono ca) (jf_cn_trans eab (jf_cn_trans (jf_cn_symm (mono cb)) (mono hc)))⟩
    · exact ⟨r, (List.mem_erase_of_ne e).2 hr, mono hc⟩

theorem jf_new_F (h : jf_F us lo hi) (hs0 : us s = 0) : jf_F (va_up (va_up us s 1) s 0) (va_up lo s a) (va_up hi s b) := by
  obtain ⟨R, h1, h2⟩ := h
  have e0 : va_up (va_up us s 1) s 0 = us := by
    funext q
    by_cases e : q = s
    · rw [e, va_up_self, hs0]
    · rw [va_up_ne _ _ e, va_up_ne _ _ e]
  rw [e0]
  refine ⟨R, h1, fun p hp => ?_⟩
  obtain ⟨r, hr, hc⟩ := h2 p hp
  refine ⟨r, hr, jf_cn_mono (fun e he hu => ?_) hc⟩
  have ne := jf_old hs0 hu
  have := jf_cn_edge (us := us) (lo := va_up lo s a) (hi := va_up hi s b) he hu
  rwa [va_up_ne _ _ ne, va_up_ne _ _ ne] at this

theorem jf_swap_F (h : jf_F us lo hi) (hs : s < 24) (hs0 : us s = 0) {x : Nat} (hx : x < 24) (hux : us x = 1)
    (hc : jf_cn (va_up (va_up us s 1) x 0) (va_up lo s a) (va_up hi s b) (lo x) (hi x)) :
    jf_F (va_up (va_up us s 1) x 0) (va_up lo s a) (va_up hi s b) := by
  obtain ⟨R, h1, h2⟩ := h
  have nx := jf_old hs0 hux
  refine ⟨R, ?_, fun p hp => ?_⟩
  · have e1 := (su_up (F := us) (s := s) (v := 1) 24).1 hs
    have e2 := (su_up (F := va_up us s 1) (s := x) (v := 0) 24).1 hx
    rw [va_up_ne _ _ nx] at e2
    omega
  · obtain ⟨r, hr, hcn⟩ := h2 p hp
    refine ⟨r, hr, jf_cn_mono (fun e he hu => ?_) hcn⟩
    by_cases e1 : e = x
    · rw [e1]; exact hc
    · have ne := jf_old hs0 hu
      have := jf_cn_edge (us := va_up (va_up us s 1) x 0) (lo := va_up lo s a) (hi := va_up hi s b) he (by rw [va_up_ne _ _ e1, va_up_ne _ _ ne]; exact hu)
      rwa [va_up_ne _ _ ne, va_up_ne _ _ ne] at this
end

theorem gp_gen_congr {T T2 : gp_f → Prop} (h : ∀ t, T t ↔ T2 t) (x : gp_f) : gp_gen T x ↔ gp_gen T2 x :=
  ⟨gp_gen_mono (fun t ht => (h t).1 ht) x, gp_gen_mono (fun t ht => (h t).2 ht) x⟩
theorem jf_T_put {us : Nat → Nat} {la : Nat → gp_f} {s : Nat} {w : gp_f} (hs : s < 24) (hs0 : us s = 0) (t : gp_f) :
    jf_T (va_up us s 1) (va_up la s w) t ↔ (jf_T us la t ∨ t = w) := by
  constructor
  · rintro ⟨e, he, hu, rfl⟩
    by_cases h : e = s
    · right; rw [h, va_up_self]
    · left
      rw [va_up_ne _ _ h] at hu ⊢
      exact ⟨e, he, hu, rfl⟩
  · rintro (⟨e, he, hu, rfl⟩ | rfl)
    · have ne := jf_old hs0 hu
      exact ⟨e, he, by rw [va_up_ne _ _ ne]; exact hu, by rw [va_up_ne _ _ ne]⟩
    · exact ⟨s, hs, va_up_self _ _ _, by rw [va_up_self]⟩
theorem jf_id_K {us : Nat → Nat} {la : Nat → gp_f} (x : gp_f) : jf_K us la id x ↔ gp_gen (jf_T us la) x := by
  constructor
  · exact gp_gen_sub (fun t ht => by
      rcases ht with h | rfl
      · exact gp_gen_mem h
      · exact gp_gen_id) x
  · exact gp_gen_mono (fun t ht => Or.inl ht) x
theorem jf_V_put {n : Nat} {us lo hi : Nat → Nat} {la : Nat → gp_f} {s a b : Nat} {w : gp_f} (h : jf_V n us lo hi la) (hw : gp_sym (ch_D n 0) w)
    (hab : a < b) (hb : b < n) (hwa : w a = b) (hwf : ∀ p, p < a → w p = p) : jf_V n (va_up us s 1) (va_up lo s a) (va_up hi s b) (va_up la s w) := by
  intro e he hu
  by_cases h1 : e = s
  · subst h1
    rw [va_up_self, va_up_self, va_up_self]
    exact ⟨hw, hab, hb, hwa, hwf⟩
  · rw [va_up_ne _ _ h1] at hu
    rw [va_up_ne _ _ h1, va_up_ne _ _ h1, va_up_ne _ _ h1]
    exact h e he hu
theorem jf_us_up {us : Nat → Nat} {s v : Nat} (h : ∀ e, us e = 0 ∨ us e = 1) (hv : v = 0 ∨ v = 1) : ∀ e, va_up us s v e = 0 ∨ va_up us s v e = 1 := by
  intro e
  by_cases h1 : e = s
  · rw [h1, va_up_self]; exact hv
  · rw [va_up_ne _ _ h1]; exact h e
theorem jf_V_out {n : Nat} {us lo hi : Nat → Nat} {la : Nat → gp_f} {x : Nat} (h : jf_V n us lo hi la) : jf_V n (va_up us x 0) lo hi la := by
  intro e he hu
  by_cases h1 : e = x
  · rw [h1, va_up_self] at hu; exact absurd hu (by decide)
  · rw [va_up_ne _ _ h1] at hu; exact h e he hu

/-- the edge x goes: what is behind it and the row that is left give the same group -/
theorem jf_out_K {n : Nat} {us lo hi : Nat → Nat} {la : Nat → gp_f} {x : Nat} {w h1 h2 t : gp_f} (hx : x < 24) (hux : us x = 1) (hV : jf_V n us lo hi la)
    (g1 : gp_gen (jf_T (va_up us x 0) la) h1) (g2 : gp_gen (jf_T (va_up us x 0) la) h2) (ht : t = la x ∨ gp_inv (la x) t) (hw : w = h1 ∘ t ∘ h2) (y : gp_f) :
    gp_gen (jf_T us la) y ↔ jf_K (va_up us x 0) la w y := by
  have sT : ∀ t, jf_T us la t → gp_sym (ch_D n 0) t := by
    rintro _ ⟨e, he, hu, rfl⟩; exact (hV e he hu).1
  have sg1 : gp_sg (gp_gen (jf_T us la)) := gp_gen_sg (ch_D_nodup n 0) sT
  have sub : ∀ t, jf_T (va_up us x 0) la t → jf_T us la t := by
    rintro _ ⟨e, he, hu, rfl⟩
    by_cases h : e = x
    · rw [h, va_up_self] at hu; exact absurd hu (by decide)
    · rw [va_up_ne _ _ h] at hu; exact ⟨e, he, hu, rfl⟩
  have mx : gp_gen (jf_T us la) (la x) := gp_gen_mem ⟨x, hx, hux, rfl⟩
  have mt : gp_gen (jf_T us la) t := by
    rcases ht with rfl | h
    · exact mx
    · exact gp_sg_inv sg1 mx h
  have mw : gp_gen (jf_T us la) w := by
    rw [hw]; exact gp_gen_comp (gp_gen_mono sub _ g1) (gp_gen_comp mt (gp_gen_mono sub _ g2))
  have sg2 : gp_sg (jf_K (va_up us x 0) la w) := gp_gen_sg (ch_D_nodup n 0) (fun t ht => by
    rcases ht with h | rfl
    · exact sT t (sub t h)
    · exact gp_gen_in (gp_sym_sg _) sT _ mw)
  constructor
  · refine gp_gen_sub (fun u hu => ?_) y
    obtain ⟨e, he, hue, rfl⟩ := hu
    by_cases h : e = x
    · subst h
      have k1 : jf_K (va_up us e 0) la w h1 := gp_gen_mono (fun t ht => Or.inl ht) _ g1
      have k2 : jf_K (va_up us e 0) la w h2 := gp_gen_mono (fun t ht => Or.inl ht) _ g2
      obtain ⟨i1, m1, v1⟩ := sg2.2.2 _ k1
      obtain ⟨i2, m2, v2⟩ := sg2.2.2 _ k2
      have kt : jf_K (va_up us e 0) la w t := by
        have : t = i1 ∘ w ∘ i2 := by
          rw [hw]; funext p
          show t p = i1 (h1 (t (h2 (i2 p))))
          rw [v2.1, v1.2]
        rw [this]; exact gp_gen_comp m1 (gp_gen_comp (gp_gen_mem (Or.inr rfl)) m2)
      rcases ht with rfl | h3
      · exact kt
      · exact gp_sg_inv sg2 kt (gp_inv_symm h3)
    · exact gp_gen_mem (Or.inl ⟨e, he, by rw [va_up_ne _ _ h]; exact hue, rfl⟩)
  · exact gp_gen_sub (fun u hu => by
      rcases hu with h | rfl
      · exact gp_gen_mem (sub u h)
      · exact mw) y

/-- a row on its way round: it puts the least place to fr; before the edge x .. -/
def jf_Q0 (n lst : Nat) (us lo hi : Nat → Nat) (la : Nat → gp_f) (x fr : Nat) (w : gp_f) : Prop :=
  gp_sym (ch_D n 0) w ∧ (∀ p, p < lst → w p = p) ∧ w lst = fr ∧ gp_gen (jf_T (va_up us x 0) la) w ∧ jf_cn (va_up us x 0) lo hi lst fr
/-- .. and behind it -/
def jf_Q1 (n lst : Nat) (us lo hi : Nat → Nat) (la : Nat → gp_f) (x fr : Nat) (w : gp_f) : Prop :=
  gp_sym (ch_D n 0) w ∧ (∀ p, p < lst → w p = p) ∧ w lst = fr ∧
  ∃ h1 t h2, gp_gen (jf_T (va_up us x 0) la) h1 ∧ gp_gen (jf_T (va_up us x 0) la) h2 ∧ (t = la x ∨ gp_inv (la x) t) ∧ w = h1 ∘ t ∘ h2

section
variable {n lst : Nat} {us lo hi : Nat → Nat} {la : Nat → gp_f} {x : Nat}
theorem jf_Q0_id : jf_Q0 n lst us lo hi la x lst id := ⟨(gp_sym_sg _).1, fun _ _ => rfl, rfl, gp_gen_id, jf_cn_refl _ _ _ _⟩
/-- one edge: its label, or the way back -/
theorem jf_lab (hV : jf_V n us lo hi la) {e p q : Nat} (he : e < 24) (hu : us e = 1) (hj : jf_J lo hi e p q) (hp : lst ≤ p) (hq : lst ≤ q) :
    ∃ t, (t = la e ∨ gp_inv (la e) t) ∧ (lo e = p → t = la e) ∧ (lo e ≠ p → gp_inv (la e) t) ∧ gp_sym (ch_D n 0) t ∧ t p = q ∧ ∀ r, r < lst → t r = r := by
  obtain ⟨h1, h2, h3, h4, h5⟩ := hV e he hu
  rcases hj with ⟨rfl, rfl⟩ | ⟨rfl, rfl⟩
  · exact ⟨la e, Or.inl rfl, fun _ => rfl, fun h => absurd rfl h, h1, h4, fun r hr => h5 r (by omega)⟩
  · obtain ⟨t, ht⟩ := h1.1
    refine ⟨t, Or.inr ht, fun h => absurd h (by omega), fun _ => ht, gp_sym_inv h1 ht, by rw [← h4]; exact ht.2 _, fun r hr => ?_⟩
    have := ht.2 r
    rwa [h5 r (by omega)] at this
theorem jf_Q00 (hV : jf_V n us lo hi la) {fr to e : Nat} {w t : gp_f} (h : jf_Q0 n lst us lo hi la x fr w) (he : e < 24) (hu : us e = 1) (hne : e ≠ x)
    (hj : jf_J lo hi e fr to) (ht : t = la e ∨ gp_inv (la e) t) (hs : gp_sym (ch_D n 0) t) (hft : t fr = to) (hf : ∀ r, r < lst → t r = r) :
    jf_Q0 n lst us lo hi la x to (t ∘ w) := by
  obtain ⟨h1, h2, h3, h4, h5⟩ := h
  have hu2 : va_up us x 0 e = 1 := by rw [va_up_ne _ _ hne]; exact hu
  have m1 : gp_gen (jf_T (va_up us x 0) la) (la e) := gp_gen_mem ⟨e, he, hu2, rfl⟩
  have m2 : gp_gen (jf_T (va_up us x 0) la) t := by
    rcases ht with rfl | ht
    · exact m1
    · refine gp_sg_inv (gp_gen_sg (ch_D_nodup n 0) ?_) m1 ht
      rintro _ ⟨e2, he2, hu3, rfl⟩; exact (jf_V_out hV e2 he2 hu3).1
  refine ⟨(gp_sym_sg _).2.1 _ _ hs h1, fun p hp => ?_, ?_, gp_gen_comp m2 h4, jf_cn_trans h5 (jf_cn_J he hu2 hj)⟩
  · show t (w p) = p
    rw [h2 p hp, hf p hp]
  · show t (w lst) = to
    rw [h3, hft]
theorem jf_Q01 {fr to : Nat} {w t : gp_f} (h : jf_Q0 n lst us lo hi la x fr w)
    (ht : t = la x ∨ gp_inv (la x) t) (hs : gp_sym (ch_D n 0) t) (hft : t fr = to) (hf : ∀ r, r < lst → t r = r) :
    jf_Q1 n lst us lo hi la x to (t ∘ w) := by
  obtain ⟨h1, h2, h3, h4, h5⟩ := h
  refine ⟨(gp_sym_sg _).2.1 _ _ hs h1, fun p hp => ?_, ?_, id, t, w, gp_gen_id, h4, ht, rfl⟩
  · show t (w p) = p
    rw [h2 p hp, hf p hp]
  · show t (w lst) = to
    rw [h3, hft]
theorem jf_Q11 (hV : jf_V n us lo hi la) {fr to e : Nat} {w t : gp_f} (h : jf_Q1 n lst us lo hi la x fr w) (he : e < 24) (hu : us e = 1) (hne : e ≠ x)
    (ht : t = la e ∨ gp_inv (la e) t) (hs : gp_sym (ch_D n 0) t) (hft : t fr = to) (hf : ∀ r, r < lst → t r = r) :
    jf_Q1 n lst us lo hi la x to (t ∘ w) := by
  obtain ⟨h1, h2, h3, k1, u, k2, g1, g2, hu1, hw⟩ := h
  have hu2 : va_up us x 0 e = 1 := by rw [va_up_ne _ _ hne]; exact hu
  have m1 : gp_gen (jf_T (va_up us x 0) la) (la e) := gp_gen_mem ⟨e, he, hu2, rfl⟩
  have m2 : gp_gen (jf_T (va_up us x 0) la) t := by
    rcases ht with rfl | ht
    · exact m1
    · refine gp_sg_inv (gp_gen_sg (ch_D_nodup n 0) ?_) m1 ht
      rintro _ ⟨e2, he2, hu3, rfl⟩; exact (jf_V_out hV e2 he2 hu3).1
  refine ⟨(gp_sym_sg _).2.1 _ _ hs h1, fun p hp => ?_, ?_, t ∘ k1, u, k2, gp_gen_comp m2 g1, g2, hu1, by rw [hw]; rfl⟩
  · show t (w p) = p
    rw [h2 p hp, hf p hp]
  · show t (w lst) = to
    rw [h3, hft]
end

/-- one turn of keep that took the new edge away again -/
theorem jf_new {n : Nat} {us lo hi : Nat → Nat} {la : Nat → gp_f} {s a b : Nat} {w w2 : gp_f} (hI : jf_I n us lo hi la) (hs : s < 24) (hs0 : us s = 0)
    (hw : gp_sym (ch_D n 0) w) (hab : a < b) (hb : b < n) (hwa : w a = b) (hwf : ∀ p, p < a → w p = p)
    (hQ : jf_Q1 n a (va_up us s 1) (va_up lo s a) (va_up hi s b) (va_up la s w) s a w2) :
    jf_I n (va_up (va_up us s 1) s 0) (va_up lo s a) (va_up hi s b) (va_up la s w) ∧ jf_m (va_up (va_up us s 1) s 0) (va_up lo s a) = jf_m us lo ∧
    ∀ y, jf_K us la w y ↔ jf_K (va_up (va_up us s 1) s 0) (va_up la s w) w2 y := by
  obtain ⟨i1, i2, i3⟩ := hI
  have hV := jf_V_put (s := s) i2 hw hab hb hwa hwf
  obtain ⟨_, _, _, h1, t, h2, g1, g2, ht, e⟩ := hQ
  refine ⟨⟨jf_us_up (jf_us_up i1 (Or.inr rfl)) (Or.inl rfl), jf_V_out hV, jf_new_F i3 hs0⟩, ?_, fun y => ?_⟩
  · refine su_congr 24 (fun e he => ?_)
    by_cases h : e = s
    · rw [h, va_up_self, hs0, Nat.zero_mul, Nat.zero_mul]
    · rw [va_up_ne _ _ h, va_up_ne _ _ h, va_up_ne _ _ h]
  · rw [← jf_out_K hs (va_up_self _ _ _) hV g1 g2 ht e y]
    exact (gp_gen_congr (jf_T_put hs hs0) y).symm

/-- one turn of keep that took an old edge away -/
theorem jf_swap {n : Nat} {us lo hi : Nat → Nat} {la : Nat → gp_f} {s a b x lst c : Nat} {w w2 : gp_f} (hI : jf_I n us lo hi la) (hs : s < 24) (hs0 : us s = 0)
    (hw : gp_sym (ch_D n 0) w) (hab : a < b) (hb : b < n) (hwa : w a = b) (hwf : ∀ p, p < a → w p = p) (hx : x < 24) (hux : us x = 1) (hlx : lo x = lst)
    (hcn : jf_cn (va_up (va_up us s 1) x 0) (va_up lo s a) (va_up hi s b) lst (hi x))
    (hQ : jf_Q1 n lst (va_up us s 1) (va_up lo s a) (va_up hi s b) (va_up la s w) x c w2) :
    jf_I n (va_up (va_up us s 1) x 0) (va_up lo s a) (va_up hi s b) (va_up la s w) ∧ jf_m (va_up (va_up us s 1) x 0) (va_up lo s a) + lst = jf_m us lo + a ∧
    ∀ y, jf_K us la w y ↔ jf_K (va_up (va_up us s 1) x 0) (va_up la s w) w2 y := by
  obtain ⟨i1, i2, i3⟩ := hI
  have nx := jf_old hs0 hux
  have hV := jf_V_put (s := s) i2 hw hab hb hwa hwf
  obtain ⟨_, _, _, h1, t, h2, g1, g2, ht, e⟩ := hQ
  refine ⟨⟨jf_us_up (jf_us_up i1 (Or.inr rfl)) (Or.inl rfl), jf_V_out hV, jf_swap_F i3 hs hs0 hx hux (by rw [hlx]; exact hcn)⟩, ?_, fun y => ?_⟩
  · have e1 : (fun e => va_up us s 1 e * va_up lo s a e) = va_up (fun e => us e * lo e) s a := by
      funext q
      by_cases h : q = s
      · rw [h, va_up_self, va_up_self, va_up_self, Nat.one_mul]
      · rw [va_up_ne _ _ h, va_up_ne _ _ h, va_up_ne _ _ h]
    have e2 : (fun e => va_up (va_up us s 1) x 0 e * va_up lo s a e) = va_up (va_up (fun e => us e * lo e) s a) x 0 := by
      funext q
      by_cases h : q = x
      · rw [h, va_up_self, va_up_self, Nat.zero_mul]
      · rw [va_up_ne _ _ h, va_up_ne _ _ h]; exact congrFun e1 q
    have s1 := (su_up (F := fun e => us e * lo e) (s := s) (v := a) 24).1 hs
    have s2 := (su_up (F := va_up (fun e => us e * lo e) s a) (s := x) (v := 0) 24).1 hx
    rw [va_up_ne _ _ nx] at s2
    have s1 : su (va_up (fun e => us e * lo e) s a) 24 + us s * lo s = su (fun e => us e * lo e) 24 + a := s1
    have s2 : su (va_up (va_up (fun e => us e * lo e) s a) x 0) 24 + us x * lo x = su (va_up (fun e => us e * lo e) s a) 24 + 0 := s2
    rw [hs0, Nat.zero_mul] at s1
    rw [hux, Nat.one_mul, hlx] at s2
    unfold jf_m
    rw [e2]; omega
  · rw [← jf_out_K hx (by rw [va_up_ne _ _ nx]; exact hux) hV g1 g2 ht e y]
    exact (gp_gen_congr (jf_T_put hs hs0) y).symm

/-! The walk: from b over the edges. by: 0 is none, e + 1 is e; dep: where in the row of places found. -/
def jf_W (us lo hi : Nat → Nat) (b c : Nat) (qu sn by' dep : Nat → Nat) : Prop :=
  (∀ p, sn p = 0 ∨ sn p = 1) ∧ c = su sn 24 ∧ (∀ i, i < c → qu i < 24 ∧ sn (qu i) = 1 ∧ dep (qu i) = i) ∧
  (∀ q, q < 24 → sn q = 1 → dep q < c ∧ qu (dep q) = q) ∧ sn b = 1 ∧ by' b = 0 ∧ dep b = 0 ∧
  ∀ q, q < 24 → sn q = 1 → q ≠ b → ∃ e par, by' q = e + 1 ∧ e < 24 ∧ us e = 1 ∧ jf_J lo hi e par q ∧
    (∀ e2, e2 < e → us e2 = 1 → ¬ jf_J lo hi e2 par q) ∧ par < 24 ∧ sn par = 1 ∧ dep par < dep q
/-- the edges e2 < e at the place v lead to places found -/
def jf_P (us lo hi sn : Nat → Nat) (v e : Nat) : Prop := ∀ e2, e2 < e → us e2 = 1 → (lo e2 = v → sn (hi e2) = 1) ∧ (hi e2 = v → sn (lo e2) = 1)

theorem jf_W0 {us lo hi qu sn by' : Nat → Nat} {b : Nat} (hb : b < 24) (h0 : ∀ p, sn p = 0) :
    jf_W us lo hi b 1 (va_up qu 0 b) (va_up sn b 1) (va_up by' b 0) (fun _ => 0) := by
  refine ⟨jf_us_up (fun e => Or.inl (h0 e)) (Or.inr rfl), ?_, fun i hi => ?_, fun q hq hs => ?_, va_up_self _ _ _, va_up_self _ _ _, rfl, fun q hq hs hne => ?_⟩
  · have := (su_up (F := sn) (s := b) (v := 1) 24).1 hb
    rw [h0 b, su_zero 24 (fun i _ => h0 i)] at this
    omega
  · have : i = 0 := by omega
    subst this
    rw [va_up_self]; exact ⟨hb, va_up_self _ _ _, rfl⟩
  · by_cases e : q = b
    · rw [e]; exact ⟨Nat.zero_lt_one, va_up_self _ _ _⟩
    · rw [va_up_ne _ _ e, h0 q] at hs; exact absurd hs (by decide)
  · rw [va_up_ne _ _ hne, h0 q] at hs; exact absurd hs (by decide)

theorem jf_Wp {us lo hi qu sn by' dep : Nat → Nat} {b c q e par : Nat} (h : jf_W us lo hi b c qu sn by' dep) (hq : q < 24) (hq0 : sn q = 0) (he : e < 24)
    (hu : us e = 1) (hj : jf_J lo hi e par q) (hl : ∀ e2, e2 < e → us e2 = 1 → ¬ jf_J lo hi e2 par q) (hp : par < 24) (hp1 : sn par = 1) :
    c < 24 ∧ jf_W us lo hi b (c + 1) (va_up qu c q) (va_up sn q 1) (va_up by' q (e + 1)) (va_up dep q c) := by
  obtain ⟨h1, h2, h3, h4, h5, h6, h6', h7⟩ := h
  have hne : ∀ r, sn r = 1 → r ≠ q := fun r hr e => by rw [e, hq0] at hr; exact absurd hr (by decide)
  have hc : c < 24 := by rw [h2]; exact su_room h1 hq hq0
  refine ⟨hc, jf_us_up h1 (Or.inr rfl), ?_, fun i hi => ?_, fun r hr hs => ?_, ?_, ?_, ?_, fun r hr hs hrb => ?_⟩
  · have := (su_up (F := sn) (s := q) (v := 1) 24).1 hq
    omega
  · by_cases e1 : i = c
    · rw [e1, va_up_self, va_up_self, va_up_self]; exact ⟨hq, rfl, rfl⟩
    · obtain ⟨k1, k2, k3⟩ := h3 i (by omega)
      rw [va_up_ne _ _ e1, va_up_ne _ _ (hne _ k2), va_up_ne _ _ (hne _ k2)]
      exact ⟨k1, k2, k3⟩
  · by_cases e1 : r = q
    · rw [e1, va_up_self, va_up_self]; exact ⟨by omega, rfl⟩
    · rw [va_up_ne _ _ e1] at hs ⊢
      obtain ⟨k1, k2⟩ := h4 r hr hs
      rw [va_up_ne _ _ (by omega)]; exact ⟨by omega, k2⟩
  · rw [va_up_ne _ _ (hne b h5)]; exact h5
  · rw [va_up_ne _ _ (hne b h5)]; exact h6
  · rw [va_up_ne _ _ (hne b h5)]; exact h6'
  · have epar : va_up dep q c par = dep par := va_up_ne _ _ (hne par hp1)
    by_cases e1 : r = q
    · subst e1
      refine ⟨e, par, va_up_self _ _ _, he, hu, hj, hl, hp, ?_, ?_⟩
      · rw [va_up_ne _ _ (hne par hp1)]; exact hp1
      · rw [epar, va_up_self]; exact (h4 par hp hp1).1
    · rw [va_up_ne _ _ e1] at hs
      obtain ⟨e3, p3, k1, k2, k3, k4, k5, k6, k7, k8⟩ := h7 r hr hs hrb
      refine ⟨e3, p3, by rw [va_up_ne _ _ e1]; exact k1, k2, k3, k4, k5, k6, by rw [va_up_ne _ _ (hne p3 k7)]; exact k7, ?_⟩
      rw [va_up_ne _ _ (hne p3 k7), va_up_ne _ _ e1]; exact k8
theorem jf_P_up {us lo hi sn : Nat → Nat} {v e q : Nat} (h : jf_P us lo hi sn v e) : jf_P us lo hi (va_up sn q 1) v e := by
  have k : ∀ r, sn r = 1 → va_up sn q 1 r = 1 := fun r hr => by
    by_cases e1 : r = q
    · rw [e1, va_up_self]
    · rw [va_up_ne _ _ e1]; exact hr
  exact fun e2 he hu => ⟨fun h1 => k _ ((h e2 he hu).1 h1), fun h1 => k _ ((h e2 he hu).2 h1)⟩

/-- the walk has ended -/
def jf_B (us lo hi : Nat → Nat) (b : Nat) (sn by' dep : Nat → Nat) : Prop :=
  (∀ p, sn p = 0 ∨ sn p = 1) ∧ (∀ e, e < 24 → us e = 1 → (sn (lo e) = 1 ↔ sn (hi e) = 1)) ∧ sn b = 1 ∧ by' b = 0 ∧ (∀ q, q < 24 → sn q = 1 → dep q < 24) ∧
  ∀ q, q < 24 → sn q = 1 → q ≠ b → ∃ e par, by' q = e + 1 ∧ e < 24 ∧ us e = 1 ∧ jf_J lo hi e par q ∧
    (∀ e2, e2 < e → us e2 = 1 → ¬ jf_J lo hi e2 par q) ∧ par < 24 ∧ sn par = 1 ∧ dep par < dep q
theorem jf_WB {n : Nat} {us lo hi qu sn by' dep : Nat → Nat} {la : Nat → gp_f} {b c : Nat} (hn : n ≤ 24) (hV : jf_V n us lo hi la) (h : jf_W us lo hi b c qu sn by' dep)
    (hP : ∀ i, i < c → jf_P us lo hi sn (qu i) 24) : jf_B us lo hi b sn by' dep := by
  obtain ⟨h1, h2, h3, h4, h5, h6, h6', h7⟩ := h
  have hc : c ≤ 24 := by
    have := su_le (F := sn) (m := 1) (fun i => by rcases h1 i with e | e <;> rw [e] <;> omega) 24
    omega
  refine ⟨h1, fun e he hu => ?_, h5, h6, fun q hq hs => by have := (h4 q hq hs).1; omega, h7⟩
  obtain ⟨_, v1, v2, _, _⟩ := hV e he hu
  constructor
  · intro hs
    obtain ⟨k1, k2⟩ := h4 (lo e) (by omega) hs
    exact (hP _ k1 e he hu).1 k2.symm
  · intro hs
    obtain ⟨k1, k2⟩ := h4 (hi e) (by omega) hs
    exact (hP _ k1 e he hu).2 k2.symm
theorem jf_B_no {us lo hi sn by' dep : Nat → Nat} {a b : Nat} (h : jf_B us lo hi b sn by' dep) (ha : ¬ sn a = 1) : ¬ jf_cn us lo hi b a :=
  fun hc => ha (hc (fun q => sn q = 1) h.2.2.1 h.2.1)

end
