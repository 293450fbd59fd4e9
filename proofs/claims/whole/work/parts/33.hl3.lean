/-! The layer: new cells; whole numbers that aren't negative. -/
section
variable {p : Program} {l : Launch} {e : Env} {R : Room} {s : State} {m : MethodId} {args : Array Value} {below : List Frame} {meth : Method} {c : Code} {H : Heap} {locs : List Loc} {cells slots : Nat} {Q : State → Prop}
variable {cc : ByteArray} {pc nL : Nat} {ls : Array Slot} {rest st : List Value} {g : hl_G} {A : Nat → Prop} {a : Nat} {H0 : Heap} {own : String} {L : List Nat} {f : Nat → va_E}

theorem hl_new (X : CallFix p m c cc nL s args tg own) (hK : hl_K g s) (h : hl_H g A H0 L f H locs) {C0 : String} {T : u_T} {N ci index : Nat}
    (hin : ∀ w ∈ u_ws C0 T N, w ∈ tg) (ty : Nat → FieldType) (hty : ∀ k, k < N → parseFieldDescriptor (T k).2.2.1 = some (ty k)) (hcl : Cond.classLink own index C0 ∈ tg)
    (hinst : Cond.instantiable C0 N ∈ tg) (hini : Cond.initialized C0 ∈ tg) (hc : classes[ci]? = some (C0, T, N)) {fs : List Value} (hfs : ∀ j, j < N → defaultValue (ty j) = vp_V fs j)
    (hcells : cells + 1 ≤ R.cells) (hslots : slots + N ≤ R.slots) (hdg : decode cc pc = .ok (.new index, 3))
    (kk : ∀ (q : Nat) (H1 : Heap), q ∉ L → hl_H g A H0 (L ++ [q]) (va_up f q (.inr (ci, fs))) H1 locs →
      W p l e R s m args below meth c H1 locs (cells + 1) (slots + N) Q (F0 m (pc + 3) ls (.ref q :: rest))) :
    W p l e R s m args below meth c H locs cells slots Q (F0 m pc ls rest) := by
  obtain ⟨hP, hD, hS, hA⟩ := h
  refine va_new (ci := ci) (fs := fs) X.1 X.2.1 X.2.2.2.2 hin ty hty X.2.2.2.1 (X.2.2.2.2 _ hcl) (X.2.2.2.2 _ hinst) (X.2.2.2.2 _ hini) hK.1 hP hD hS hA hc hfs hcells hslots hdg (fun q H1 hP1 hD1 hS1 => ?_)
  obtain ⟨hq, e1⟩ := hl_push hD1
  rw [e1] at hP1 hD1
  exact kk q H1 hq ⟨hP1, hD1, hS1, hA⟩

theorem hl_newI (X : CallFix p m c cc nL s args tg own) (hK : hl_K g s) (h : hl_H g A H0 L f H locs) {n : Nat} (hn : n < 2 ^ 20)
    (hcells : cells + 1 ≤ R.cells) (hslots : slots + n ≤ R.slots) (hdg : decode cc pc = .ok (.newarray .int, 2))
    (kk : ∀ (q : Nat) (H1 : Heap), q ∉ L → hl_H g A H0 (L ++ [q]) (va_up f q (hl_row g n (fun _ => 0))) H1 locs →
      W p l e R s m args below meth c H1 locs (cells + 1) (slots + n) Q (F0 m (pc + 2) ls (.ref q :: rest))) :
    W p l e R s m args below meth c H locs cells slots Q (F0 m pc ls (.int (nI n) :: rest)) := by
  obtain ⟨hP, hD, hS, hA⟩ := h
  refine va_newa (atype := .int) (ty := .int) (n := nI n) (N' := n) (a0 := (n, .inl (fun _ => 0))) X.1 X.2.1 (X.2.2.2.2 (.arrayClass .int) (tg_of (by decide +kernel) rfl)) rfl hK.1 hP hD hS hA (fun cA => vp_cell_i cA n _) (nI_pos (by omega)) (nI_clamp (by omega)) (Nat.le_trans (Nat.mul_le_mul_right 4 (Nat.le_of_lt hn)) (by decide)) hcells hslots hdg (fun q cA H1 hK1 hP1 hD1 hS1 => ?_)
  have ec : cA = g.2.1 := by
    have h1 := (hK1.2 4 _ rfl).2
    have h2 := (hK.1.2 0 _ rfl).2
    exact Option.some.inj (h1.symm.trans h2)
  subst ec
  obtain ⟨hq, e1⟩ := hl_push hD1
  rw [e1] at hP1 hD1
  exact kk q H1 hq ⟨hP1, hD1, hS1, hA⟩

theorem hl_newZ (X : CallFix p m c cc nL s args tg own) (hK : hl_K g s) (h : hl_H g A H0 L f H locs) {n : Nat} (hn : n < 2 ^ 20)
    (hcells : cells + 1 ≤ R.cells) (hslots : slots + n ≤ R.slots) (hdg : decode cc pc = .ok (.newarray .boolean, 2))
    (kk : ∀ (q : Nat) (H1 : Heap), q ∉ L → hl_H g A H0 (L ++ [q]) (va_up f q (hl_zow g n (fun _ => 0))) H1 locs →
      W p l e R s m args below meth c H1 locs (cells + 1) (slots + n) Q (F0 m (pc + 2) ls (.ref q :: rest))) :
    W p l e R s m args below meth c H locs cells slots Q (F0 m pc ls (.int (nI n) :: rest)) := by
  obtain ⟨hP, hD, hS, hA⟩ := h
  refine va_newa (atype := .boolean) (ty := .boolean) (n := nI n) (N' := n) (a0 := (n, .inl (fun _ => 0))) X.1 X.2.1 (X.2.2.2.2 (.arrayClass .boolean) (tg_of (by decide +kernel) rfl)) rfl hK.1 hP hD hS hA (fun cA => vp_cell_i cA n _) (nI_pos (by omega)) (nI_clamp (by omega)) (Nat.le_trans (Nat.mul_le_mul_right 1 (Nat.le_of_lt hn)) (by decide)) hcells hslots hdg (fun q cA H1 hK1 hP1 hD1 hS1 => ?_)
  have ec : cA = g.2.2.1 := by
    have h1 := (hK1.2 4 _ rfl).2
    have h2 := (hK.1.2 1 _ rfl).2
    exact Option.some.inj (h1.symm.trans h2)
  subst ec
  obtain ⟨hq, e1⟩ := hl_push hD1
  rw [e1] at hP1 hD1
  exact kk q H1 hq ⟨hP1, hD1, hS1, hA⟩

theorem hl_newL (X : CallFix p m c cc nL s args tg own) (hK : hl_K g s) (h : hl_H g A H0 L f H locs) {n index : Nat} (hn : n < 2 ^ 20)
    (hcl : Cond.classLink own index R_K ∈ tg) (hcells : cells + 1 ≤ R.cells) (hslots : slots + n ≤ R.slots) (hdg : decode cc pc = .ok (.anewarray index, 3))
    (kk : ∀ (q : Nat) (H1 : Heap), q ∉ L → hl_H g A H0 (L ++ [q]) (va_up f q (hl_lks g n (fun _ => none))) H1 locs →
      W p l e R s m args below meth c H1 locs (cells + 1) (slots + n) Q (F0 m (pc + 3) ls (.ref q :: rest))) :
    W p l e R s m args below meth c H locs cells slots Q (F0 m pc ls (.int (nI n) :: rest)) := by
  obtain ⟨hP, hD, hS, hA⟩ := h
  refine va_newq X.1 X.2.1 X.2.2.2.1 (X.2.2.2.2 _ hcl) hK.2.1 hK.1 hP hD hS hA (nI_pos (by omega)) (nI_clamp (by omega)) (by omega) hcells hslots hdg (fun q cA H1 hK1 hP1 hD1 hS1 => ?_)
  have ec : cA = g.2.2.2.2 := by
    obtain ⟨_, _, _, _, _, h1⟩ := (hK1.2 4 _ rfl).2
    obtain ⟨_, _, _, _, _, h2⟩ := (hK.1.2 3 _ rfl).2
    exact Option.some.inj (h1.symm.trans h2)
  subst ec
  obtain ⟨hq, e1⟩ := hl_push hD1
  rw [e1] at hP1 hD1
  exact kk q H1 hq ⟨hP1, hD1, hS1, hA⟩

theorem hl_aastL (X : CallFix p m c cc nL s args tg own) (hK : hl_K g s) (h : hl_H g A H0 L f H locs) {n i v : Nat} {z : Nat → Option Nat} {vs : List Value}
    (ha : a ∈ L) (hfa : f a = hl_lks g n z) (hv : v ∈ L) (hfv : f v = .inr (3, vs)) (hi : i < n) (hn : n < 2 ^ 31) (hdg : decode cc pc = .ok (.aastore, 1))
    (kk : ∀ (H1 : Heap) (locs1 : List Loc), hl_H g A H0 L (va_up f a (hl_lks g n (va_up z i (some v)))) H1 locs1 →
      W p l e R s m args below meth c H1 locs1 cells slots Q (F0 m (pc + 1) ls rest)) :
    W p l e R s m args below meth c H locs cells slots Q (F0 m pc ls (.ref v :: .int (nI i) :: .ref a :: rest)) := by
  obtain ⟨j, hj⟩ := hl_at ha hfa
  obtain ⟨j2, hj2⟩ := hl_at hv hfv
  obtain ⟨hP, hD, hS, hA⟩ := h
  refine va_astq (r := (R_K, F_K, 7)) X.1 X.2.1 hK.1 hP hD hS j 3 j2 3 hj rfl hj2 rfl (vp_in_nI hi hn) hdg (fun H1 locs1 hP1 hD1 hS1 => ?_)
  rw [hl_set hD ha hfa hj, nI_clamp (by omega)] at hP1 hD1
  exact kk H1 locs1 ⟨hP1, hD1, hS1, hA⟩

/-- new int[n][k]: the outer row last, the inner ones before it -/
theorem hl_mna (X : CallFix p m c cc nL s args tg own) (hK : hl_K g s) (h : hl_H g A H0 L f H locs) {n k index : Nat} (hn : n < 2 ^ 10) (hk : k < 2 ^ 10)
    (hcl : Cond.classLink own index "[[I" ∈ tg) (hcells : cells + (1 + n) ≤ R.cells) (hslots : slots + (n + n * k) ≤ R.slots) (hdg : decode cc pc = .ok (.multianewarray index 2, 4))
    (kk : ∀ (q : Nat) (r : Nat → Nat) (H1 : Heap), (∀ i j : Nat, i < n → j < n → r i = r j → i = j) → (∀ i : Nat, i < n → r i ∉ L) → q ∉ L ++ (List.range n).map r →
      hl_H g A H0 ((L ++ (List.range n).map r) ++ [q]) (va_up (vr_up f ((List.range n).map r) (hl_row g k (fun _ => 0))) q (hl_grd g n (fun i => if i < n then some (r i) else none))) H1 locs →
      W p l e R s m args below meth c H1 locs (cells + 1 + n) (slots + n + n * k) Q (F0 m (pc + 4) ls (.ref q :: rest))) :
    W p l e R s m args below meth c H locs cells slots Q (F0 m pc ls (.int (nI k) :: .int (nI n) :: rest)) := by
  obtain ⟨hP, hD, hS, hA⟩ := h
  have hcy : s.vm.findClass (FieldType.array .int).toString = some g.2.1 := by
    have h2 := (hK.1.2 0 _ rfl).2
    exact h2
  refine va_mna (X := []) (ty := .int) (cy := g.2.1) (z := (k, .inl (fun _ => 0))) X.1 X.2.1 X.2.2.2.1 (X.2.2.2.2 (.classLink own index "[[I") hcl) hK.2.2.1 (X.2.2.2.2 (.arrayClass .int) (tg_of (by decide +kernel) rfl)) hcy hK.1 hP hD hS hA
    (nI_pos (by omega)) (nI_pos (by omega)) (nI_clamp (by omega)) (nI_clamp (by omega)) (by omega) (by show k * 4 ≤ 536870912; omega) (by omega) rfl rfl hcells hslots ?_ hdg (fun q r cA H1 h1 h2 hK1 hP1 hD1 hS1 => ?_)
  · intro c0
    show ({ cls := c0, slots := Array.replicate k (defaultValue .int), vm := .none } : Cell) = arrV c0 k (fun _ => .int 0)
    rw [← arrV_new]
    rfl
  · have ec : cA = g.2.2.2.1 := by
      have h3 := (hK1.2 4 _ rfl).2
      have h4 := (hK.1.2 2 _ rfl).2
      exact Option.some.inj (h3.symm.trans h4)
    subst ec
    have hP2 := va_P.swap hP1
    have hD2 := va_D.swap hD1
    rw [List.nil_append] at hP2 hD2
    obtain ⟨hq, e1⟩ := hl_push hD2
    rw [e1] at hP2 hD2
    exact kk q r H1 h1 h2 hq ⟨hP2, hD2, hS1, hA⟩

end
