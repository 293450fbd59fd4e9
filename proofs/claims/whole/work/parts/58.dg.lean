/-! Digits of numbers; what is said of a chain's sizes. Pure. -/
section
def dgt (V i : Nat) : Nat := V / 10 ^ i % 10
theorem dgt_lt (V i : Nat) : dgt V i < 10 := Nat.mod_lt _ (by decide)
theorem dgt_one : (fun p => if p = 0 then 1 else 0) = dgt 1 := by
  funext p
  unfold dgt
  by_cases h : p = 0
  · subst h; rfl
  · rw [if_neg h]
    have : 1 < 10 ^ p := Nat.one_lt_pow h (by decide)
    rw [Nat.div_eq_of_lt this]
theorem dgt_car (V k : Nat) : ∀ i, dg_car (dgt V) k i = (V % 10 ^ i * k) / 10 ^ i
  | 0 => by show 0 = _; rw [Nat.pow_zero, Nat.mod_one, Nat.zero_mul, Nat.zero_div]
  | i + 1 => by
    show (dgt V i * k + dg_car (dgt V) k i) / 10 = _
    rw [dgt_car V k i]
    unfold dgt
    have h0 : 0 < 10 ^ i := Nat.pos_of_ne_zero (by simp)
    have h1 : V % 10 ^ (i + 1) = V % 10 ^ i + 10 ^ i * (V / 10 ^ i % 10) := by
      rw [Nat.pow_succ, Nat.mod_mul]
    rw [h1, Nat.pow_succ, ← Nat.div_div_eq_div_mul, Nat.add_mul, Nat.mul_assoc, Nat.add_mul_div_left _ _ h0, Nat.add_comm]
theorem dgt_mul (V k : Nat) : dg_mul (dgt V) k = dgt (V * k) := by
  funext i
  show (dgt V i * k + dg_car (dgt V) k i) % 10 = V * k / 10 ^ i % 10
  rw [dgt_car]
  unfold dgt
  have h0 : 0 < 10 ^ i := Nat.pos_of_ne_zero (by simp)
  have h1 : V * k / 10 ^ i = V % 10 ^ i * k / 10 ^ i + V / 10 ^ i * k := by
    have h2 : V * k = V % 10 ^ i * k + 10 ^ i * (V / 10 ^ i * k) := by
      rw [← Nat.mul_assoc, ← Nat.add_mul, Nat.mod_add_div]
    rw [h2, Nat.add_mul_div_left _ _ h0]
  rw [h1, Nat.add_comm, Nat.add_mod, Nat.mul_mod, Nat.mod_mod, ← Nat.mul_mod, ← Nat.add_mod]
theorem dgt_rs (V k : Nat) : ∀ m t, dg_rs (dgt V) k m t = (V / 10 ^ t % 10 ^ m) % k
  | 0, t => by show 0 = _; rw [Nat.pow_zero, Nat.mod_one, Nat.zero_mod]
  | m + 1, t => by
    show (dg_rs (dgt V) k m (t + 1) * 10 + dgt V t) % k = _
    rw [dgt_rs V k m (t + 1)]
    unfold dgt
    have h1 : V / 10 ^ (t + 1) = V / 10 ^ t / 10 := by rw [Nat.pow_succ, Nat.div_div_eq_div_mul]
    have h2 : V / 10 ^ t % 10 ^ (m + 1) = V / 10 ^ t % 10 + 10 * (V / 10 ^ t / 10 % 10 ^ m) := by
      rw [Nat.pow_succ, Nat.mul_comm (10 ^ m) 10, Nat.mod_mul]
    rw [h2, h1, Nat.add_mod, Nat.mul_mod, Nat.mod_mod, ← Nat.mul_mod, ← Nat.add_mod, Nat.mul_comm, Nat.add_comm]
theorem dgt_div {V k n t : Nat} (hV : V < 10 ^ n) (ht : t < n) (hk : 0 < k) : dg_div (dgt V) k n t = dgt (V / k) t := by
  show (dg_rs (dgt V) k (n - t - 1) (t + 1) * 10 + dgt V t) / k = V / k / 10 ^ t % 10
  rw [dgt_rs]
  have h0 : V / 10 ^ (t + 1) < 10 ^ (n - t - 1) := by
    rw [Nat.div_lt_iff_lt_mul (Nat.pos_of_ne_zero (by simp)), ← Nat.pow_add]
    rw [show n - t - 1 + (t + 1) = n by omega]; exact hV
  rw [Nat.mod_eq_of_lt h0]
  unfold dgt
  have h1 : V / 10 ^ (t + 1) = V / 10 ^ t / 10 := by rw [Nat.pow_succ, Nat.div_div_eq_div_mul]
  have h2 : V / k / 10 ^ t = V / 10 ^ t / k := by rw [Nat.div_div_eq_div_mul, Nat.mul_comm, ← Nat.div_div_eq_div_mul]
  rw [h1, h2]
  generalize V / 10 ^ t = A
  have h3 : A = k * (10 * (A / 10 / k)) + (A / 10 % k * 10 + A % 10) := by
    have e1 := Nat.div_add_mod A 10
    have e2 := Nat.div_add_mod (A / 10) k
    have e3 : k * (10 * (A / 10 / k)) = 10 * (k * (A / 10 / k)) := by rw [Nat.mul_left_comm]
    omega
  have h4 : A / k = 10 * (A / 10 / k) + (A / 10 % k * 10 + A % 10) / k := by
    conv => lhs; rw [h3]
    rw [Nat.mul_add_div hk]
  have h5 : (A / 10 % k * 10 + A % 10) / k < 10 := by
    rw [Nat.div_lt_iff_lt_mul hk]
    have e4 := Nat.mod_lt (A / 10) hk
    have e5 := Nat.mod_lt A (show 0 < 10 by decide)
    omega
  rw [h4, Nat.mul_add_mod, Nat.mod_eq_of_lt h5]
theorem dg_len_congr {d d2 : Nat → Nat} : ∀ n, (∀ i, i < n → d i = d2 i) → dg_len d n = dg_len d2 n
  | 0, _ => rfl
  | 1, _ => rfl
  | n + 2, h => by
    show (if d (n + 1) = 0 then dg_len d (n + 1) else n + 2) = (if d2 (n + 1) = 0 then dg_len d2 (n + 1) else n + 2)
    rw [h (n + 1) (by omega), dg_len_congr (n + 1) (fun i hi => h i (by omega))]
theorem dg_at_congr {d d2 : Nat → Nat} {n : Nat} (h : ∀ i, i < n → d i = d2 i) (x : Int32) : dg_at d n x = dg_at d2 n x := by
  unfold dg_at
  rw [dg_len_congr n h]
  by_cases h1 : x < 0
  · rw [if_pos h1, if_pos h1]
  · rw [if_neg h1, if_neg h1]
    by_cases h2 : x.toNatClampNeg < dg_len d2 n
    · rw [if_pos h2, if_pos h2, h _ (Nat.lt_of_lt_of_le h2 (dg_len_le d2 n))]
    · rw [if_neg h2, if_neg h2]
theorem dg_len_up {d : Nat → Nat} {n : Nat} (hn : 0 < n) : ∀ m, (∀ i, n ≤ i → d i = 0) → dg_len d (n + m) = dg_len d n
  | 0, _ => rfl
  | m + 1, h => by
    obtain ⟨k, rfl⟩ : ∃ k, n = k + 1 := ⟨n - 1, by omega⟩
    show dg_len d (k + 1 + m + 1) = _
    rw [show k + 1 + m + 1 = (k + m) + 2 by omega]
    show (if d (k + m + 1) = 0 then dg_len d (k + m + 1) else k + m + 2) = _
    rw [if_pos (h _ (by omega)), show k + m + 1 = k + 1 + m by omega, dg_len_up hn m h]
theorem dg_at_40 {V : Nat} (hV : V < 10 ^ 24) (x : Int32) : dg_at (dgt V) 40 x = dg_at (dgt V) 24 x := by
  unfold dg_at
  rw [show (40 : Nat) = 24 + 16 from rfl, dg_len_up (by decide) 16 (fun i hi => ?_)]
  unfold dgt
  rw [Nat.div_eq_of_lt (Nat.lt_of_lt_of_le hV (Nat.pow_le_pow_right (by decide) hi))]
/-- the sizes multiplied stay below 24! -/
theorem pr_bd {sn : Nat → Nat} {n : Nat} (hn : n ≤ 24) (hs : ∀ i, i < n → sn i ≤ n - i) : ∀ i, i ≤ n → ch_pr sn 0 i * gp_fac (24 - i) ≤ gp_fac 24
  | 0, _ => by show 1 * _ ≤ _; rw [Nat.one_mul]; exact Nat.le_refl _
  | i + 1, h => by
    have h1 := pr_bd hn hs i (by omega)
    rw [ch_pr_last, Nat.zero_add]
    have h2 : gp_fac (24 - i) = (24 - i) * gp_fac (24 - (i + 1)) := by
      rw [show 24 - i = 24 - (i + 1) + 1 by omega]; rfl
    rw [h2, ← Nat.mul_assoc] at h1
    refine Nat.le_trans (Nat.mul_le_mul_right _ (Nat.mul_le_mul_left _ ?_)) h1
    have := hs i (by omega)
    omega
theorem pr_lt {sn : Nat → Nat} {n : Nat} (hn : n ≤ 24) (hs : ∀ i, i < n → sn i ≤ n - i) {i : Nat} (hi : i ≤ n) : ch_pr sn 0 i < 10 ^ 24 := by
  have h1 := pr_bd hn hs i hi
  have h2 := gp_fac_pos (24 - i)
  have h3 : gp_fac 24 < 10 ^ 24 := by decide
  exact Nat.lt_of_le_of_lt (Nat.le_trans (Nat.le_mul_of_pos_right _ h2) h1) h3
theorem ch_pr_congr {sn sn2 : Nat → Nat} : ∀ k i, (∀ j, i ≤ j → j < i + k → sn j = sn2 j) → ch_pr sn i k = ch_pr sn2 i k
  | 0, _, _ => rfl
  | k + 1, i, h => by
    show sn i * ch_pr sn (i + 1) k = sn2 i * ch_pr sn2 (i + 1) k
    rw [h i (Nat.le_refl _) (by omega), ch_pr_congr k (i + 1) (fun j h1 h2 => h j (by omega) (by omega))]
/-- how many spreads have two places or more -/
def rn (sn : Nat → Nat) (n : Nat) : Nat := su (fun i => if 2 ≤ sn i then 1 else 0) n
theorem rn_le (sn : Nat → Nat) (n : Nat) : rn sn n ≤ n := by
  have := su_le (F := fun i => if 2 ≤ sn i then 1 else 0) (m := 1) (fun i => by split <;> omega) n
  unfold rn; omega
/-- the place of the k-th of them -/
def ba (sn : Nat → Nat) (k : Int32) : Nat → Nat → Nat → Int32
  | 0, _, _ => -1
  | t + 1, i, c => if 2 ≤ sn i then (if nI c = k then nI i else ba sn k t (i + 1) (c + 1)) else ba sn k t (i + 1) c
theorem su_congr {F F2 : Nat → Nat} : ∀ n, (∀ i, i < n → F i = F2 i) → su F n = su F2 n
  | 0, _ => rfl
  | n + 1, h => by show su F n + F n = su F2 n + F2 n; rw [su_congr n (fun i hi => h i (by omega)), h n (by omega)]
theorem rn_congr {sn sn2 : Nat → Nat} {n : Nat} (h : ∀ i, i < n → sn i = sn2 i) : rn sn n = rn sn2 n := su_congr n (fun i hi => by rw [h i hi])
theorem ba_congr {sn sn2 : Nat → Nat} {n : Nat} (h : ∀ i, i < n → sn i = sn2 i) (k : Int32) : ∀ t i c, i + t ≤ n → ba sn k t i c = ba sn2 k t i c
  | 0, _, _, _ => rfl
  | t + 1, i, c, hi => by
    show (if 2 ≤ sn i then (if nI c = k then nI i else ba sn k t (i + 1) (c + 1)) else ba sn k t (i + 1) c) = (if 2 ≤ sn2 i then (if nI c = k then nI i else ba sn2 k t (i + 1) (c + 1)) else ba sn2 k t (i + 1) c)
    rw [h i (by omega), ba_congr h k t (i + 1) (c + 1) (by omega), ba_congr h k t (i + 1) c (by omega)]
/-- the sizes of the spreads of a group -/
def sz_all (G : gp_f → Prop) (n : Nat) (sn : Nat → Nat) : Prop := ∀ i, i < n → ch_sz G i (sn i)
theorem sz_uniq {G : gp_f → Prop} {n : Nat} {sn sn2 : Nat → Nat} (h1 : sz_all G n sn) (h2 : sz_all G n sn2) : ∀ i, i < n → sn i = sn2 i :=
  fun i hi => gp_card_uniq (h1 i hi) (h2 i hi)
/-- a spread of i has no place before i, and none out of n -/
theorem sz_le {G : gp_f → Prop} {n i k : Nat} (hG : gp_sub G (gp_sym (ch_D n 0))) (hi : i < n) (h : ch_sz G i k) : k ≤ n - i := by
  have h2 : gp_card (fun q => i ≤ q ∧ q < n) (n - i) := ⟨ch_D n i, ch_D_nodup n i, ch_D_len n i, fun x => ch_D_mem⟩
  refine gp_card_le h h2 (fun q hq => ?_)
  obtain ⟨x, hx, hf, rfl⟩ := hq
  refine ⟨?_, lk_sym_lt (hG x hx) hi⟩
  rcases Nat.lt_or_ge (x i) i with q | q
  · obtain ⟨y, hy⟩ := (hG x hx).1
    have := gp_inv_inj hy (hf (x i) q)
    omega
  · exact q
end
