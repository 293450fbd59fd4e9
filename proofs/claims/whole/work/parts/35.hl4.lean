/-! The layer: rows of numbers as Nat; a row's contents beyond its length don't matter. -/
section

/-- an int row that holds numbers that aren't negative -/
abbrev hl_nat (g : hl_G) (n : Nat) (z : Nat → Nat) : va_E := hl_row g n (fun p => nI (z p))

theorem hr_up (z : Nat → Nat) (i v : Nat) : va_up (fun p => nI (z p)) i (nI v) = fun p => nI (va_up z i v p) := by
  funext p
  by_cases h : p = i
  · rw [h, va_up_self, va_up_self]
  · rw [va_up_ne _ _ h, va_up_ne _ _ h]

theorem hr_uu {α : Type} (f : Nat → α) (k : Nat) (v w : α) : va_up (va_up f k v) k w = va_up f k w := by
  funext j
  by_cases h : j = k
  · rw [h, va_up_self, va_up_self]
  · rw [va_up_ne _ _ h, va_up_ne _ _ h, va_up_ne _ _ h]

theorem hr_id {α : Type} (f : Nat → α) (k : Nat) : va_up f k (f k) = f := by
  funext j
  by_cases h : j = k
  · rw [h, va_up_self]
  · rw [va_up_ne _ _ h]

theorem hr_comm {α : Type} (f : Nat → α) {k j : Nat} (v w : α) (h : k ≠ j) : va_up (va_up f k v) j w = va_up (va_up f j w) k v := by
  funext q
  by_cases h1 : q = k
  · subst h1
    rw [va_up_ne _ _ h, va_up_self, va_up_self]
  · by_cases h2 : q = j
    · subst h2
      rw [va_up_self, va_up_ne _ _ h1, va_up_self]
    · rw [va_up_ne _ _ h2, va_up_ne _ _ h1, va_up_ne _ _ h1, va_up_ne _ _ h2]

theorem hr_cell {cA : ClassId} {n : Nat} {z w : Nat → Int32} (h : ∀ p, p < n → z p = w p) : vp_cell cA (n, .inl z) = vp_cell cA (n, .inl w) := by
  rw [vp_cell_i, vp_cell_i]
  unfold arrV
  congr 1
  apply Array.ext
  · simp
  · intro i h1 h2
    have hi : i < n := by simpa using h1
    simp [h i hi]

theorem hl_norm {g : hl_G} {A : Nat → Prop} {H0 H : Heap} {L : List Nat} {f : Nat → va_E} {locs : List Loc} {a n : Nat} {cA : ClassId} {z w : Nat → Int32}
    (h : hl_H g A H0 L (va_up f a (.inl (cA, n, .inl z))) H locs) (hz : ∀ p, p < n → z p = w p) : hl_H g A H0 L (va_up f a (.inl (cA, n, .inl w))) H locs := by
  obtain ⟨hP, hD, hS, hA⟩ := h
  have key : ∀ (k : Nat) (q : Nat × va_E), (va_pl L (va_up f a (.inl (cA, n, .inl w))))[k]? = some q →
      ∃ x, (va_pl L (va_up f a (.inl (cA, n, .inl z))))[k]? = some (q.1, x) ∧ (x = q.2 ∨ (x = .inl (cA, n, .inl z) ∧ q.2 = .inl (cA, n, .inl w))) := by
    intro k q hk
    simp only [va_pl, List.getElem?_map] at hk ⊢
    cases hb : L[k]? with
    | none => rw [hb] at hk; cases hk
    | some b =>
      rw [hb] at hk
      cases hk
      by_cases hba : b = a
      · subst hba
        exact ⟨_, rfl, Or.inr ⟨va_up_self .., va_up_self ..⟩⟩
      · refine ⟨_, rfl, Or.inl ?_⟩
        show va_up f a _ b = va_up f a _ b
        rw [va_up_ne _ _ hba, va_up_ne _ _ hba]
  refine ⟨fun k q hk => ?_, ⟨fun i j x y hx hy hxy => ?_, fun k q hk => ?_⟩, hS, hA⟩
  · obtain ⟨x, h1, h2⟩ := key k q hk
    have h3 := hP k _ h1
    rcases h2 with h2 | ⟨h2, h4⟩
    · rw [h2] at h3; exact h3
    · rw [h2] at h3
      have h5 : H[q.1]? = some (vp_cell cA (n, .inl z)) := h3
      show va_at g.1 classes q H
      obtain ⟨q1, q2⟩ := q
      simp only at h4
      subst h4
      show H[q1]? = some (vp_cell cA (n, .inl w))
      rw [← hr_cell hz]
      exact h5
  · obtain ⟨_, h1, _⟩ := key i x hx
    obtain ⟨_, h2, _⟩ := key j y hy
    exact hD.1 i j _ _ h1 h2 hxy
  · obtain ⟨x, h1, _⟩ := key k q hk
    exact hD.2 k (q.1, x) h1

theorem hn_inc (x : Nat) : nI x + Int32.ofInt 1 = nI (x + 1) := nI_1 x
theorem hn_dec (x : Nat) : nI (x + 1) + Int32.ofInt (-1) = nI x := pk_m1 x

section
variable {p : Program} {l : Launch} {e : Env} {R : Room} {s : State} {m : MethodId} {args : Array Value} {below : List Frame} {meth : Method} {c : Code} {H : Heap} {locs : List Loc} {cells slots : Nat} {Q : State → Prop}
variable {cc : ByteArray} {pc nL : Nat} {ls : Array Slot} {rest : List Value} {g : hl_G} {A : Nat → Prop} {a : Nat} {H0 : Heap} {own : String} {L : List Nat} {f : Nat → va_E}

theorem hl_iastN (X : CallFix p m c cc nL s args tg own) (hK : hl_K g s) (h : hl_H g A H0 L f H locs) {n i v : Nat} {z : Nat → Nat}
    (ha : a ∈ L) (hfa : f a = hl_nat g n z) (hi : i < n) (hn : n < 2 ^ 31) (hdg : decode cc pc = .ok (.iastore, 1))
    (kk : ∀ (H1 : Heap) (locs1 : List Loc), hl_H g A H0 L (va_up f a (hl_nat g n (va_up z i v))) H1 locs1 →
      W p l e R s m args below meth c H1 locs1 cells slots Q (F0 m (pc + 1) ls rest)) :
    W p l e R s m args below meth c H locs cells slots Q (F0 m pc ls (.int (nI v) :: .int (nI i) :: .ref a :: rest)) := by
  refine hl_iast X hK h ha hfa hi hn hdg (fun H1 locs1 h1 => ?_)
  rw [hr_up] at h1
  exact kk H1 locs1 h1

end

/-- private static void leaveAll(int[] row) -/
theorem c_C_leaveAll (l : Launch) (g : hl_G) (sz : Nat) (L : List Nat) (f : Nat → va_E) (a n : Nat) (z : Nat → Nat) (ha : a ∈ L) (hfa : f a = hl_nat g n z) (hn : n < 2 ^ 31) :
    Met l y_C_leaveAll (hq y_C_leaveAll b_C_leaveAll 2 none) { frames := 0, cells := 0, slots := 0, locals := 0 } (hm_P g [.ref a] sz L f)
      (va_Qv (fun u => u = (L, va_up f a (hl_nat g n id))) (hm_B g sz L) (hm_A sz L)) 0 0 (hm_A sz L) := by
  refine hm_ofW (by decide) (Nat.le_of_ble_eq_true rfl) ?_
  intro p e s m below meth c X hr hlk _ hK hsz hh ls hl
  have hl : lv_has ls 2 [(0, .ref a)] := hl
  have loop : ∀ (k i : Nat) (z : Nat → Nat) (H : Heap) (locs : List Loc) (ls : Array Slot), k + i = n → (∀ p, p < i → z p = p) →
      hl_H g (hm_A sz L) s.heap L (va_up f a (hl_nat g n z)) H locs → lv_has ls 2 [(1, .int (nI i)), (0, .ref a)] →
      W p l e { frames := 0, cells := 0, slots := 0, locals := 0 } s m #[.ref a] below meth c H locs 0 0 (MQ below (va_Qv (fun u => u = (L, va_up f a (hl_nat g n id))) (hm_B g sz L) (hm_A sz L)) #[.ref a] s 0 0 (hm_A sz L)) (F0 m 2 ls []) := by
    intro k
    induction k with
    | zero =>
      intro i z H locs ls hki hz hh hl
      refine lv_iload_n X.1 X.2.1 d_C_leaveAll_2 rfl (lv_at hl 0 rfl) ?_
      refine lv_aload_n X.1 X.2.1 d_C_leaveAll_3 rfl (lv_at hl 1 rfl) ?_
      refine hl_alenI X hK hh ha (va_up_self ..) d_C_leaveAll_4 ?_
      refine hn_ige (tgt := 18) X (by omega) (by omega) d_C_leaveAll_5 (by decide) (fun hc => ?_) (fun hc => ?_)
      · have hh := hl_norm (w := fun p => nI (id p)) hh (fun p hp => by rw [hz p (by omega)]; rfl)
        exact hm_vret X hr hlk hh rfl (Nat.le_refl _) (Nat.le_refl _) d_C_leaveAll_18
      · omega
    | succ k ih =>
      intro i z H locs ls hki hz hh hl
      refine lv_iload_n X.1 X.2.1 d_C_leaveAll_2 rfl (lv_at hl 0 rfl) ?_
      refine lv_aload_n X.1 X.2.1 d_C_leaveAll_3 rfl (lv_at hl 1 rfl) ?_
      refine hl_alenI X hK hh ha (va_up_self ..) d_C_leaveAll_4 ?_
      refine hn_ige (tgt := 18) X (by omega) (by omega) d_C_leaveAll_5 (by decide) (fun hc => ?_) (fun hc => ?_)
      · omega
      · refine lv_aload_n X.1 X.2.1 d_C_leaveAll_8 rfl (lv_at hl 1 rfl) ?_
        refine lv_iload_n X.1 X.2.1 d_C_leaveAll_9 rfl (lv_at hl 0 rfl) ?_
        refine lv_iload_n X.1 X.2.1 d_C_leaveAll_10 rfl (lv_at hl 0 rfl) ?_
        refine hl_iastN X hK hh ha (va_up_self ..) hc hn d_C_leaveAll_11 (fun H locs hh => ?_)
        rw [hr_uu] at hh
        refine lv_iinc (v := nI (i + 1)) (lv' := [(1, .int (nI (i + 1))), (0, .ref a)]) X.1 X.2.1 d_C_leaveAll_12 hl (k := 0) rfl (hn_inc i) (by decide) rfl (fun ls hl => ?_)
        refine lv_goto (tgt := 2) X.1 X.2.1 d_C_leaveAll_15 (by decide) ?_
        refine ih (i + 1) (va_up z i i) H locs ls (by omega) (fun p hp => ?_) hh hl
        by_cases hpi : p = i
        · rw [hpi, va_up_self]
        · rw [va_up_ne _ _ hpi]; exact hz p (by omega)
  refine lv_iconst (v := nI 0) X.1 X.2.1 d_C_leaveAll_0 (by decide) ?_
  refine lv_istore_n (lv' := [(1, .int (nI 0)), (0, .ref a)]) X.1 X.2.1 d_C_leaveAll_1 rfl hl (by decide) rfl (fun ls hl => ?_)
  have hh : hl_H g (hm_A sz L) s.heap L (va_up f a (hl_nat g n z)) s.heap [] := by
    rw [← hfa, hr_id]; exact hh
  exact loop n 0 z s.heap [] ls (by omega) (fun p hp => absurd hp (Nat.not_lt_zero _)) hh hl

end
