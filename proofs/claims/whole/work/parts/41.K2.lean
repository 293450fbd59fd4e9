/-! The cells of a link, one changed; Link: clear, addGenerator, widen, reachesNewPlace. -/
section
theorem lk_fr {T : Nat → Nat} {ad : Nat → Nat → Nat → Nat} {n i k j : Nat} (hT : lk_T T ad n i) (hk : k < 8) (hv : lk_j n i k j) (hj : j < 64) (f : Nat → va_E) (x : va_E) : ∀ q, ¬ lk_tag i (T q) → va_up f (ad k i j) x q = f q := by
  intro q hq
  refine va_up_ne _ _ (fun e => hq ?_)
  rw [e]
  exact ⟨k, j, hk, hj, hT k j hk hv⟩
section
variable {g : hl_G} {L : List Nat} {f : Nat → va_E} {T : Nat → Nat} {ad : Nat → Nat → Nat → Nat} {n i gn : Nat} {G : Nat → Nat → Nat} {pr : Nat → Nat} {sn : Nat} {sp : Nat → Nat} {ix : Nat → Option Nat} {wb : Nat → Nat → Nat}

theorem lk_up0 (hn : n ≤ 24) (hP : lk_P g L f ad n i gn G pr sn sp ix wb) (hT : lk_T T ad n i) (gn' sn' : Nat) : lk_P g L (va_up f (ad 0 i 0) (.inr (3, [.ref (ad 1 i 0), .int (nI gn'), .ref (ad 3 i 0), .ref (ad 4 i 0), .int (nI sn'), .ref (ad 5 i 0), .ref (ad 6 i 0)]))) ad n i gn' G pr sn' sp ix wb := by
  obtain ⟨⟨p0, q0⟩, ⟨p1, q1⟩, hg, ⟨p3, q3⟩, ⟨p4, q4⟩, ⟨p5, q5⟩, ⟨p6, q6⟩, hw⟩ := hP
  have hmo : lk_most n i ≤ 36 := by unfold lk_most; omega
  exact ⟨⟨p0, va_up_self ..⟩, ⟨p1, (va_up_ne _ _ (hl_ne (T := T) (by rw [hT 1 0 (by decide) rfl, hT 0 0 (by decide) rfl]; omega))).trans q1⟩, (fun j0 hj0 => ⟨(hg j0 hj0).1, (va_up_ne _ _ (hl_ne (T := T) (by rw [hT 2 j0 (by decide) (show j0 < lk_most n i by omega), hT 0 0 (by decide) rfl]; omega))).trans (hg j0 hj0).2⟩), ⟨p3, (va_up_ne _ _ (hl_ne (T := T) (by rw [hT 3 0 (by decide) rfl, hT 0 0 (by decide) rfl]; omega))).trans q3⟩, ⟨p4, (va_up_ne _ _ (hl_ne (T := T) (by rw [hT 4 0 (by decide) rfl, hT 0 0 (by decide) rfl]; omega))).trans q4⟩, ⟨p5, (va_up_ne _ _ (hl_ne (T := T) (by rw [hT 5 0 (by decide) rfl, hT 0 0 (by decide) rfl]; omega))).trans q5⟩, ⟨p6, (va_up_ne _ _ (hl_ne (T := T) (by rw [hT 6 0 (by decide) rfl, hT 0 0 (by decide) rfl]; omega))).trans q6⟩, (fun j0 hj0 => ⟨(hw j0 hj0).1, (va_up_ne _ _ (hl_ne (T := T) (by rw [hT 7 j0 (by decide) (show j0 < n - i by omega), hT 0 0 (by decide) rfl]; omega))).trans (hw j0 hj0).2⟩)⟩

theorem lk_up2 (hn : n ≤ 24) (hP : lk_P g L f ad n i gn G pr sn sp ix wb) (hT : lk_T T ad n i) (j : Nat) (hj : j < lk_most n i) (r : Nat → Nat) : lk_P g L (va_up f (ad 2 i j) (hl_nat g n r)) ad n i gn (va_up G j r) pr sn sp ix wb := by
  obtain ⟨⟨p0, q0⟩, ⟨p1, q1⟩, hg, ⟨p3, q3⟩, ⟨p4, q4⟩, ⟨p5, q5⟩, ⟨p6, q6⟩, hw⟩ := hP
  have hmo : lk_most n i ≤ 36 := by unfold lk_most; omega
  exact ⟨⟨p0, (va_up_ne _ _ (hl_ne (T := T) (by rw [hT 0 0 (by decide) rfl, hT 2 j (by decide) (show j < lk_most n i by omega)]; omega))).trans q0⟩, ⟨p1, (va_up_ne _ _ (hl_ne (T := T) (by rw [hT 1 0 (by decide) rfl, hT 2 j (by decide) (show j < lk_most n i by omega)]; omega))).trans q1⟩, (fun j0 hj0 => ⟨(hg j0 hj0).1, by
      by_cases e : j0 = j
      · subst e; rw [va_up_self, va_up_self]
      · rw [va_up_ne _ _ (hl_ne (T := T) (by rw [hT 2 j0 (by decide) (show j0 < lk_most n i by omega), hT 2 j (by decide) (show j < lk_most n i by omega)]; omega)), va_up_ne _ _ e]; exact (hg j0 hj0).2⟩), ⟨p3, (va_up_ne _ _ (hl_ne (T := T) (by rw [hT 3 0 (by decide) rfl, hT 2 j (by decide) (show j < lk_most n i by omega)]; omega))).trans q3⟩, ⟨p4, (va_up_ne _ _ (hl_ne (T := T) (by rw [hT 4 0 (by decide) rfl, hT 2 j (by decide) (show j < lk_most n i by omega)]; omega))).trans q4⟩, ⟨p5, (va_up_ne _ _ (hl_ne (T := T) (by rw [hT 5 0 (by decide) rfl, hT 2 j (by decide) (show j < lk_most n i by omega)]; omega))).trans q5⟩, ⟨p6, (va_up_ne _ _ (hl_ne (T := T) (by rw [hT 6 0 (by decide) rfl, hT 2 j (by decide) (show j < lk_most n i by omega)]; omega))).trans q6⟩, (fun j0 hj0 => ⟨(hw j0 hj0).1, (va_up_ne _ _ (hl_ne (T := T) (by rw [hT 7 j0 (by decide) (show j0 < n - i by omega), hT 2 j (by decide) (show j < lk_most n i by omega)]; omega))).trans (hw j0 hj0).2⟩)⟩

theorem lk_up3 (hn : n ≤ 24) (hP : lk_P g L f ad n i gn G pr sn sp ix wb) (hT : lk_T T ad n i) (pr' : Nat → Nat) : lk_P g L (va_up f (ad 3 i 0) (hl_nat g (lk_most n i) pr')) ad n i gn G pr' sn sp ix wb := by
  obtain ⟨⟨p0, q0⟩, ⟨p1, q1⟩, hg, ⟨p3, q3⟩, ⟨p4, q4⟩, ⟨p5, q5⟩, ⟨p6, q6⟩, hw⟩ := hP
  have hmo : lk_most n i ≤ 36 := by unfold lk_most; omega
  exact ⟨⟨p0, (va_up_ne _ _ (hl_ne (T := T) (by rw [hT 0 0 (by decide) rfl, hT 3 0 (by decide) rfl]; omega))).trans q0⟩, ⟨p1, (va_up_ne _ _ (hl_ne (T := T) (by rw [hT 1 0 (by decide) rfl, hT 3 0 (by decide) rfl]; omega))).trans q1⟩, (fun j0 hj0 => ⟨(hg j0 hj0).1, (va_up_ne _ _ (hl_ne (T := T) (by rw [hT 2 j0 (by decide) (show j0 < lk_most n i by omega), hT 3 0 (by decide) rfl]; omega))).trans (hg j0 hj0).2⟩), ⟨p3, va_up_self ..⟩, ⟨p4, (va_up_ne _ _ (hl_ne (T := T) (by rw [hT 4 0 (by decide) rfl, hT 3 0 (by decide) rfl]; omega))).trans q4⟩, ⟨p5, (va_up_ne _ _ (hl_ne (T := T) (by rw [hT 5 0 (by decide) rfl, hT 3 0 (by decide) rfl]; omega))).trans q5⟩, ⟨p6, (va_up_ne _ _ (hl_ne (T := T) (by rw [hT 6 0 (by decide) rfl, hT 3 0 (by decide) rfl]; omega))).trans q6⟩, (fun j0 hj0 => ⟨(hw j0 hj0).1, (va_up_ne _ _ (hl_ne (T := T) (by rw [hT 7 j0 (by decide) (show j0 < n - i by omega), hT 3 0 (by decide) rfl]; omega))).trans (hw j0 hj0).2⟩)⟩

theorem lk_up4 (hn : n ≤ 24) (hP : lk_P g L f ad n i gn G pr sn sp ix wb) (hT : lk_T T ad n i) (sp' : Nat → Nat) : lk_P g L (va_up f (ad 4 i 0) (hl_nat g (n - i) sp')) ad n i gn G pr sn sp' ix wb := by
  obtain ⟨⟨p0, q0⟩, ⟨p1, q1⟩, hg, ⟨p3, q3⟩, ⟨p4, q4⟩, ⟨p5, q5⟩, ⟨p6, q6⟩, hw⟩ := hP
  have hmo : lk_most n i ≤ 36 := by unfold lk_most; omega
  exact ⟨⟨p0, (va_up_ne _ _ (hl_ne (T := T) (by rw [hT 0 0 (by decide) rfl, hT 4 0 (by decide) rfl]; omega))).trans q0⟩, ⟨p1, (va_up_ne _ _ (hl_ne (T := T) (by rw [hT 1 0 (by decide) rfl, hT 4 0 (by decide) rfl]; omega))).trans q1⟩, (fun j0 hj0 => ⟨(hg j0 hj0).1, (va_up_ne _ _ (hl_ne (T := T) (by rw [hT 2 j0 (by decide) (show j0 < lk_most n i by omega), hT 4 0 (by decide) rfl]; omega))).trans (hg j0 hj0).2⟩), ⟨p3, (va_up_ne _ _ (hl_ne (T := T) (by rw [hT 3 0 (by decide) rfl, hT 4 0 (by decide) rfl]; omega))).trans q3⟩, ⟨p4, va_up_self ..⟩, ⟨p5, (va_up_ne _ _ (hl_ne (T := T) (by rw [hT 5 0 (by decide) rfl, hT 4 0 (by decide) rfl]; omega))).trans q5⟩, ⟨p6, (va_up_ne _ _ (hl_ne (T := T) (by rw [hT 6 0 (by decide) rfl, hT 4 0 (by decide) rfl]; omega))).trans q6⟩, (fun j0 hj0 => ⟨(hw j0 hj0).1, (va_up_ne _ _ (hl_ne (T := T) (by rw [hT 7 j0 (by decide) (show j0 < n - i by omega), hT 4 0 (by decide) rfl]; omega))).trans (hw j0 hj0).2⟩)⟩

theorem lk_up5 (hn : n ≤ 24) (hP : lk_P g L f ad n i gn G pr sn sp ix wb) (hT : lk_T T ad n i) (ix' : Nat → Option Nat) : lk_P g L (va_up f (ad 5 i 0) (hl_row g n (fun p => oI (ix' p)))) ad n i gn G pr sn sp ix' wb := by
  obtain ⟨⟨p0, q0⟩, ⟨p1, q1⟩, hg, ⟨p3, q3⟩, ⟨p4, q4⟩, ⟨p5, q5⟩, ⟨p6, q6⟩, hw⟩ := hP
  have hmo : lk_most n i ≤ 36 := by unfold lk_most; omega
  exact ⟨⟨p0, (va_up_ne _ _ (hl_ne (T := T) (by rw [hT 0 0 (by decide) rfl, hT 5 0 (by decide) rfl]; omega))).trans q0⟩, ⟨p1, (va_up_ne _ _ (hl_ne (T := T) (by rw [hT 1 0 (by decide) rfl, hT 5 0 (by decide) rfl]; omega))).trans q1⟩, (fun j0 hj0 => ⟨(hg j0 hj0).1, (va_up_ne _ _ (hl_ne (T := T) (by rw [hT 2 j0 (by decide) (show j0 < lk_most n i by omega), hT 5 0 (by decide) rfl]; omega))).trans (hg j0 hj0).2⟩), ⟨p3, (va_up_ne _ _ (hl_ne (T := T) (by rw [hT 3 0 (by decide) rfl, hT 5 0 (by decide) rfl]; omega))).trans q3⟩, ⟨p4, (va_up_ne _ _ (hl_ne (T := T) (by rw [hT 4 0 (by decide) rfl, hT 5 0 (by decide) rfl]; omega))).trans q4⟩, ⟨p5, va_up_self ..⟩, ⟨p6, (va_up_ne _ _ (hl_ne (T := T) (by rw [hT 6 0 (by decide) rfl, hT 5 0 (by decide) rfl]; omega))).trans q6⟩, (fun j0 hj0 => ⟨(hw j0 hj0).1, (va_up_ne _ _ (hl_ne (T := T) (by rw [hT 7 j0 (by decide) (show j0 < n - i by omega), hT 5 0 (by decide) rfl]; omega))).trans (hw j0 hj0).2⟩)⟩

theorem lk_up7 (hn : n ≤ 24) (hP : lk_P g L f ad n i gn G pr sn sp ix wb) (hT : lk_T T ad n i) (j : Nat) (hj : j < n - i) (r : Nat → Nat) : lk_P g L (va_up f (ad 7 i j) (hl_nat g n r)) ad n i gn G pr sn sp ix (va_up wb j r) := by
  obtain ⟨⟨p0, q0⟩, ⟨p1, q1⟩, hg, ⟨p3, q3⟩, ⟨p4, q4⟩, ⟨p5, q5⟩, ⟨p6, q6⟩, hw⟩ := hP
  have hmo : lk_most n i ≤ 36 := by unfold lk_most; omega
  exact ⟨⟨p0, (va_up_ne _ _ (hl_ne (T := T) (by rw [hT 0 0 (by decide) rfl, hT 7 j (by decide) (show j < n - i by omega)]; omega))).trans q0⟩, ⟨p1, (va_up_ne _ _ (hl_ne (T := T) (by rw [hT 1 0 (by decide) rfl, hT 7 j (by decide) (show j < n - i by omega)]; omega))).trans q1⟩, (fun j0 hj0 => ⟨(hg j0 hj0).1, (va_up_ne _ _ (hl_ne (T := T) (by rw [hT 2 j0 (by decide) (show j0 < lk_most n i by omega), hT 7 j (by decide) (show j < n - i by omega)]; omega))).trans (hg j0 hj0).2⟩), ⟨p3, (va_up_ne _ _ (hl_ne (T := T) (by rw [hT 3 0 (by decide) rfl, hT 7 j (by decide) (show j < n - i by omega)]; omega))).trans q3⟩, ⟨p4, (va_up_ne _ _ (hl_ne (T := T) (by rw [hT 4 0 (by decide) rfl, hT 7 j (by decide) (show j < n - i by omega)]; omega))).trans q4⟩, ⟨p5, (va_up_ne _ _ (hl_ne (T := T) (by rw [hT 5 0 (by decide) rfl, hT 7 j (by decide) (show j < n - i by omega)]; omega))).trans q5⟩, ⟨p6, (va_up_ne _ _ (hl_ne (T := T) (by rw [hT 6 0 (by decide) rfl, hT 7 j (by decide) (show j < n - i by omega)]; omega))).trans q6⟩, (fun j0 hj0 => ⟨(hw j0 hj0).1, by
      by_cases e : j0 = j
      · subst e; rw [va_up_self, va_up_self]
      · rw [va_up_ne _ _ (hl_ne (T := T) (by rw [hT 7 j0 (by decide) (show j0 < n - i by omega), hT 7 j (by decide) (show j < n - i by omega)]; omega)), va_up_ne _ _ e]; exact (hw j0 hj0).2⟩)⟩

end
end
