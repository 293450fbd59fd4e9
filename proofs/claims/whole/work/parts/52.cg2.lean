/-! The object's cells, one changed; what the public methods say. -/
section
section
variable {g : hl_G} {L : List Nat} {f : Nat → va_E} {T : Nat → Nat} {b : Nat → Nat} {n mm sm : Nat} {mv st : Nat → Nat → Nat} {zp zd : Nat → Nat} {cv : Value} {fl : Int32}

theorem cg_mvr (h : cg_B g L f T b n mm sm mv st zp zd cv fl) (i : Nat) (hi : i < 10) (x : Nat → Nat) : cg_B g L (va_up f (b (10 + i)) (hl_nat g n x)) T b n mm sm (va_up mv i x) st zp zd cv fl := by
  obtain ⟨h0, h1, h2, h3, h4, h5, h6, h7, h8, h9⟩ := h
  have t0 := (h0 (10 + i) (by omega)).2
  have k : ∀ t1, (t1 < 7 ∨ (10 ≤ t1 ∧ t1 < 40)) → t1 ≠ 10 + i → va_up f (b (10 + i)) (hl_nat g n x) (b t1) = f (b t1) := fun t1 ht hz => va_up_ne _ _ (hl_ne (T := T) (by rw [(h0 t1 ht).2, t0]; exact hz))
  exact ⟨h0, (k 0 (by omega) (by omega)).trans h1, (k 1 (by omega) (by omega)).trans h2, (k 2 (by omega) (by omega)).trans h3, (k 3 (by omega) (by omega)).trans h4, (k 4 (by omega) (by omega)).trans h5, (k 5 (by omega) (by omega)).trans h6, (k 6 (by omega) (by omega)).trans h7, fun i1 hi1 => by
      by_cases e : i1 = i
      · subst e; rw [va_up_self, va_up_self]
      · rw [k (10 + i1) (by omega) (by omega), va_up_ne _ _ e]; exact h8 i1 hi1, fun i1 hi1 => (k (20 + i1) (by omega) (by omega)).trans (h9 i1 hi1)⟩

theorem cg_str (h : cg_B g L f T b n mm sm mv st zp zd cv fl) (i : Nat) (hi : i < 20) (x : Nat → Nat) : cg_B g L (va_up f (b (20 + i)) (hl_nat g n x)) T b n mm sm mv (va_up st i x) zp zd cv fl := by
  obtain ⟨h0, h1, h2, h3, h4, h5, h6, h7, h8, h9⟩ := h
  have t0 := (h0 (20 + i) (by omega)).2
  have k : ∀ t1, (t1 < 7 ∨ (10 ≤ t1 ∧ t1 < 40)) → t1 ≠ 20 + i → va_up f (b (20 + i)) (hl_nat g n x) (b t1) = f (b t1) := fun t1 ht hz => va_up_ne _ _ (hl_ne (T := T) (by rw [(h0 t1 ht).2, t0]; exact hz))
  exact ⟨h0, (k 0 (by omega) (by omega)).trans h1, (k 1 (by omega) (by omega)).trans h2, (k 2 (by omega) (by omega)).trans h3, (k 3 (by omega) (by omega)).trans h4, (k 4 (by omega) (by omega)).trans h5, (k 5 (by omega) (by omega)).trans h6, (k 6 (by omega) (by omega)).trans h7, fun i1 hi1 => (k (10 + i1) (by omega) (by omega)).trans (h8 i1 hi1), fun i1 hi1 => by
      by_cases e : i1 = i
      · subst e; rw [va_up_self, va_up_self]
      · rw [k (20 + i1) (by omega) (by omega), va_up_ne _ _ e]; exact h9 i1 hi1⟩

theorem cg_zpr (h : cg_B g L f T b n mm sm mv st zp zd cv fl) (x : Nat → Nat) : cg_B g L (va_up f (b (4)) (hl_nat g n x)) T b n mm sm mv st x zd cv fl := by
  obtain ⟨h0, h1, h2, h3, h4, h5, h6, h7, h8, h9⟩ := h
  have t0 := (h0 (4) (by omega)).2
  have k : ∀ t1, (t1 < 7 ∨ (10 ≤ t1 ∧ t1 < 40)) → t1 ≠ 4 → va_up f (b (4)) (hl_nat g n x) (b t1) = f (b t1) := fun t1 ht hz => va_up_ne _ _ (hl_ne (T := T) (by rw [(h0 t1 ht).2, t0]; exact hz))
  exact ⟨h0, (k 0 (by omega) (by omega)).trans h1, (k 1 (by omega) (by omega)).trans h2, (k 2 (by omega) (by omega)).trans h3, (k 3 (by omega) (by omega)).trans h4, va_up_self .., (k 5 (by omega) (by omega)).trans h6, (k 6 (by omega) (by omega)).trans h7, fun i1 hi1 => (k (10 + i1) (by omega) (by omega)).trans (h8 i1 hi1), fun i1 hi1 => (k (20 + i1) (by omega) (by omega)).trans (h9 i1 hi1)⟩

theorem cg_zdr (h : cg_B g L f T b n mm sm mv st zp zd cv fl) (x : Nat → Nat) : cg_B g L (va_up f (b (6)) (hl_nat g 24 x)) T b n mm sm mv st zp x cv fl := by
  obtain ⟨h0, h1, h2, h3, h4, h5, h6, h7, h8, h9⟩ := h
  have t0 := (h0 (6) (by omega)).2
  have k : ∀ t1, (t1 < 7 ∨ (10 ≤ t1 ∧ t1 < 40)) → t1 ≠ 6 → va_up f (b (6)) (hl_nat g 24 x) (b t1) = f (b t1) := fun t1 ht hz => va_up_ne _ _ (hl_ne (T := T) (by rw [(h0 t1 ht).2, t0]; exact hz))
  exact ⟨h0, (k 0 (by omega) (by omega)).trans h1, (k 1 (by omega) (by omega)).trans h2, (k 2 (by omega) (by omega)).trans h3, (k 3 (by omega) (by omega)).trans h4, (k 4 (by omega) (by omega)).trans h5, (k 5 (by omega) (by omega)).trans h6, va_up_self .., fun i1 hi1 => (k (10 + i1) (by omega) (by omega)).trans (h8 i1 hi1), fun i1 hi1 => (k (20 + i1) (by omega) (by omega)).trans (h9 i1 hi1)⟩

end
/-- the object, between calls; made: it has a chain -/
def cg_I (g : hl_G) (L : List Nat) (f : Nat → va_E) (T : Nat → Nat) (b : Nat → Nat) (n mm sm : Nat) (mv st : Nat → Nat → Nat) (made : Bool) : Prop :=
  ∃ (zp zd : Nat → Nat) (cv : Value) (fl : Int32), cg_B g L f T b n mm sm mv st zp zd cv fl ∧ cg_C g L f T n mm mv cv fl ∧ cg_W n mm sm mv st ∧ (made = true → cv ≠ .null)

/-- what a call leaves: the object so, and cells of others as they were -/
def cg_R (g : hl_G) (L : List Nat) (f : Nat → va_E) (T : Nat → Nat) (b : Nat → Nat) (n mm sm : Nat) (mv st : Nat → Nat → Nat) (made : Bool) (u : List Nat × (Nat → va_E)) : Prop :=
  ∃ T1 : Nat → Nat, (∀ q, q ∈ L → q ∈ u.1 ∧ T1 q = T q) ∧ (∀ q, q ∈ L → 20000 ≤ T q → u.2 q = f q) ∧ cg_I g u.1 u.2 T1 b n mm sm mv st made

theorem cg_R_same {g : hl_G} {L : List Nat} {f : Nat → va_E} {T : Nat → Nat} {b : Nat → Nat} {n mm sm : Nat} {mv st : Nat → Nat → Nat} {made : Bool} (h : cg_I g L f T b n mm sm mv st made) : cg_R g L f T b n mm sm mv st made (L, f) :=
  ⟨T, fun q h => ⟨h, rfl⟩, fun _ _ _ => rfl, h⟩

theorem mv_gen_id {mv : Nat → gp_f} {mm : Nat} : ∀ x, gp_gen (mv_T mv mm) x ↔ gp_gen (mv_T (va_up mv mm id) (mm + 1)) x := by
  intro x
  constructor
  · refine gp_gen_mono (fun h ⟨i, hi, e⟩ => ⟨i, by omega, ?_⟩) x
    rw [va_up_ne _ _ (by omega)]; exact e
  · refine gp_gen_sub (fun h ⟨i, hi, e⟩ => ?_) x
    by_cases ei : i = mm
    · rw [ei, va_up_self] at e
      rw [e]; exact gp_gen_id
    · rw [va_up_ne _ _ ei] at e
      exact gp_gen_mem ⟨i, by omega, e⟩
end
