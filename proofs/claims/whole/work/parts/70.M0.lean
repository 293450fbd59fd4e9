/-! The reference's cells. -/
section
/-- a boolean row by noughts and ones -/
abbrev hl_zat (g : hl_G) (n : Nat) (z : Nat → Nat) : va_E := hl_zow g n (fun p => nI (z p))
/-- a row of numbers that may be -1: nought says so, else one more than the number -/
abbrev hl_byr (g : hl_G) (z : Nat → Nat) : va_E := hl_row g 24 (fun p => nI (z p) + (-1))
def md_i (k : Nat) : Bool := k == 0 || k == 3 || k == 5 || k == 7 || k == 8 || (decide (10 ≤ k) && decide (k < 24))
def md_D (L : List Nat) (d : Nat → Nat) : Prop := ∃ T : Nat → Nat, ∀ k, md_i k = true → d k ∈ L ∧ T (d k) = 20000 + k
theorem md_in {L : List Nat} {d : Nat → Nat} (h : md_D L d) {k : Nat} (hk : md_i k = true) : d k ∈ L := by
  obtain ⟨T, hT⟩ := h
  exact (hT k hk).1
theorem md_ne {L : List Nat} {d : Nat → Nat} (h : md_D L d) {i j : Nat} (hi : md_i i = true) (hj : md_i j = true) (hij : i ≠ j) : d i ≠ d j := by
  obtain ⟨T, hT⟩ := h
  exact hl_ne (T := T) (by rw [(hT i hi).2, (hT j hj).2]; omega)

/-- what the reference's cells hold; other cells as f0 says -/
def mf (g : hl_G) (d : Nat → Nat) (f0 : Nat → va_E) (n mm sm kn mk : Nat) (r3 r5 r7 r8 r10 r11 r12 r13 r14 r15 r16 r17 r18 r19 r20 r21 r22 r23 : Nat → Nat) : Nat → va_E := fun a =>
  if a = d 0 then .inr (5, [.int (nI n), .int 0, .int (nI mm), .ref (d 3), .int (nI sm), .ref (d 5), .int (nI kn), .ref (d 7), .ref (d 8), .int (nI mk), .ref (d 10), .ref (d 11), .ref (d 12), .ref (d 13), .ref (d 14), .ref (d 15), .ref (d 16), .ref (d 17), .ref (d 18), .ref (d 19), .ref (d 20), .ref (d 21), .ref (d 22), .ref (d 23)])
  else if a = d 3 then hl_nat g 240 r3
  else if a = d 5 then hl_nat g 480 r5
  else if a = d 7 then hl_nat g 13824 r7
  else if a = d 8 then hl_zat g 576 r8
  else if a = d 10 then hl_nat g 576 r10
  else if a = d 11 then hl_nat g 24 r11
  else if a = d 12 then hl_nat g 24 r12
  else if a = d 13 then hl_nat g 576 r13
  else if a = d 14 then hl_zat g 24 r14
  else if a = d 15 then hl_nat g 24 r15
  else if a = d 16 then hl_byr g r16
  else if a = d 17 then hl_zat g 24 r17
  else if a = d 18 then hl_nat g 24 r18
  else if a = d 19 then hl_nat g 24 r19
  else if a = d 20 then hl_nat g 24 r20
  else if a = d 21 then hl_nat g 40 r21
  else if a = d 22 then hl_nat g 24 r22
  else if a = d 23 then hl_nat g 576 r23
  else f0 a
section
variable {g : hl_G} {L : List Nat} {d : Nat → Nat} {f0 : Nat → va_E} {n mm sm kn mk : Nat} {r3 r5 r7 r8 r10 r11 r12 r13 r14 r15 r16 r17 r18 r19 r20 r21 r22 r23 : Nat → Nat}
variable {A : Nat → Prop} {H0 H : Heap} {locs : List Loc}
theorem md_at_0 : mf g d f0 n mm sm kn mk r3 r5 r7 r8 r10 r11 r12 r13 r14 r15 r16 r17 r18 r19 r20 r21 r22 r23 (d 0) = .inr (5, [.int (nI n), .int 0, .int (nI mm), .ref (d 3), .int (nI sm), .ref (d 5), .int (nI kn), .ref (d 7), .ref (d 8), .int (nI mk), .ref (d 10), .ref (d 11), .ref (d 12), .ref (d 13), .ref (d 14), .ref (d 15), .ref (d 16), .ref (d 17), .ref (d 18), .ref (d 19), .ref (d 20), .ref (d 21), .ref (d 22), .ref (d 23)]) := if_pos rfl
theorem md_at_3 (hd : md_D L d) : mf g d f0 n mm sm kn mk r3 r5 r7 r8 r10 r11 r12 r13 r14 r15 r16 r17 r18 r19 r20 r21 r22 r23 (d 3) = hl_nat g 240 r3 := by
  unfold mf
  rw [if_neg (md_ne hd (i := 3) (j := 0) rfl rfl (by decide)), if_pos rfl]
theorem md_at_5 (hd : md_D L d) : mf g d f0 n mm sm kn mk r3 r5 r7 r8 r10 r11 r12 r13 r14 r15 r16 r17 r18 r19 r20 r21 r22 r23 (d 5) = hl_nat g 480 r5 := by
  unfold mf
  rw [if_neg (md_ne hd (i := 5) (j := 0) rfl rfl (by decide)), if_neg (md_ne hd (i := 5) (j := 3) rfl rfl (by decide)), if_pos rfl]
theorem md_at_7 (hd : md_D L d) : mf g d f0 n mm sm kn mk r3 r5 r7 r8 r10 r11 r12 r13 r14 r15 r16 r17 r18 r19 r20 r21 r22 r23 (d 7) = hl_nat g 13824 r7 := by
  unfold mf
  rw [if_neg (md_ne hd (i := 7) (j := 0) rfl rfl (by decide)), if_neg (md_ne hd (i := 7) (j := 3) rfl rfl (by decide)), if_neg (md_ne hd (i := 7) (j := 5) rfl rfl (by decide)), if_pos rfl]
theorem md_at_8 (hd : md_D L d) : mf g d f0 n mm sm kn mk r3 r5 r7 r8 r10 r11 r12 r13 r14 r15 r16 r17 r18 r19 r20 r21 r22 r23 (d 8) = hl_zat g 576 r8 := by
  unfold mf
  rw [if_neg (md_ne hd (i := 8) (j := 0) rfl rfl (by decide)), if_neg (md_ne hd (i := 8) (j := 3) rfl rfl (by decide)), if_neg (md_ne hd (i := 8) (j := 5) rfl rfl (by decide)), if_neg (md_ne hd (i := 8) (j := 7) rfl rfl (by decide)), if_pos rfl]
theorem md_at_10 (hd : md_D L d) : mf g d f0 n mm sm kn mk r3 r5 r7 r8 r10 r11 r12 r13 r14 r15 r16 r17 r18 r19 r20 r21 r22 r23 (d 10) = hl_nat g 576 r10 := by
  unfold mf
  rw [if_neg (md_ne hd (i := 10) (j := 0) rfl rfl (by decide)), if_neg (md_ne hd (i := 10) (j := 3) rfl rfl (by decide)), if_neg (md_ne hd (i := 10) (j := 5) rfl rfl (by decide)), if_neg (md_ne hd (i := 10) (j := 7) rfl rfl (by decide)), if_neg (md_ne hd (i := 10) (j := 8) rfl rfl (by decide)), if_pos rfl]
theorem md_at_11 (hd : md_D L d) : mf g d f0 n mm sm kn mk r3 r5 r7 r8 r10 r11 r12 r13 r14 r15 r16 r17 r18 r19 r20 r21 r22 r23 (d 11) = hl_nat g 24 r11 := by
  unfold mf
  rw [if_neg (md_ne hd (i := 11) (j := 0) rfl rfl (by decide)), if_neg (md_ne hd (i := 11) (j := 3) rfl rfl (by decide)), if_neg (md_ne hd (i := 11) (j := 5) rfl rfl (by decide)), if_neg (md_ne hd (i := 11) (j := 7) rfl rfl (by decide)), if_neg (md_ne hd (i := 11) (j := 8) rfl rfl (by decide)), if_neg (md_ne hd (i := 11) (j := 10) rfl rfl (by decide)), if_pos rfl]
theorem md_at_12 (hd : md_D L d) : mf g d f0 n mm sm kn mk r3 r5 r7 r8 r10 r11 r12 r13 r14 r15 r16 r17 r18 r19 r20 r21 r22 r23 (d 12) = hl_nat g 24 r12 := by
  unfold mf
  rw [if_neg (md_ne hd (i := 12) (j := 0) rfl rfl (by decide)), if_neg (md_ne hd (i := 12) (j := 3) rfl rfl (by decide)), if_neg (md_ne hd (i := 12) (j := 5) rfl rfl (by decide)), if_neg (md_ne hd (i := 12) (j := 7) rfl rfl (by decide)), if_neg (md_ne hd (i := 12) (j := 8) rfl rfl (by decide)), if_neg (md_ne hd (i := 12) (j := 10) rfl rfl (by decide)), if_neg (md_ne hd (i := 12) (j := 11) rfl rfl (by decide)), if_pos rfl]
theorem md_at_13 (hd : md_D L d) : mf g d f0 n mm sm kn mk r3 r5 r7 r8 r10 r11 r12 r13 r14 r15 r16 r17 r18 r19 r20 r21 r22 r23 (d 13) = hl_nat g 576 r13 := by
  unfold mf
  rw [if_neg (md_ne hd (i := 13) (j := 0) rfl rfl (by decide)), if_neg (md_ne hd (i := 13) (j := 3) rfl rfl (by decide)), if_neg (md_ne hd (i := 13) (j := 5) rfl rfl (by decide)), if_neg (md_ne hd (i := 13) (j := 7) rfl rfl (by decide)), if_neg (md_ne hd (i := 13) (j := 8) rfl rfl (by decide)), if_neg (md_ne hd (i := 13) (j := 10) rfl rfl (by decide)), if_neg (md_ne hd (i := 13) (j := 11) rfl rfl (by decide)), if_neg (md_ne hd (i := 13) (j := 12) rfl rfl (by decide)), if_pos rfl]
theorem md_at_14 (hd : md_D L d) : mf g d f0 n mm sm kn mk r3 r5 r7 r8 r10 r11 r12 r13 r14 r15 r16 r17 r18 r19 r20 r21 r22 r23 (d 14) = hl_zat g 24 r14 := by
  unfold mf
  rw [if_neg (md_ne hd (i := 14) (j := 0) rfl rfl (by decide)), if_neg (md_ne hd (i := 14) (j := 3) rfl rfl (by decide)), if_neg (md_ne hd (i := 14) (j := 5) rfl rfl (by decide)), if_neg (md_ne hd (i := 14) (j := 7) rfl rfl (by decide)), if_neg (md_ne hd (i := 14) (j := 8) rfl rfl (by decide)), if_neg (md_ne hd (i := 14) (j := 10) rfl rfl (by decide)), if_neg (md_ne hd (i := 14) (j := 11) rfl rfl (by decide)), if_neg (md_ne hd (i := 14) (j := 12) rfl rfl (by decide)), if_neg (md_ne hd (i := 14) (j := 13) rfl rfl (by decide)), if_pos rfl]
theorem md_at_15 (hd : md_D L d) : mf g d f0 n mm sm kn mk r3 r5 r7 r8 r10 r11 r12 r13 r14 r15 r16 r17 r18 r19 r20 r21 r22 r23 (d 15) = hl_nat g 24 r15 := by
  unfold mf
  rw [if_neg (md_ne hd (i := 15) (j := 0) rfl rfl (by decide)), if_neg (md_ne hd (i := 15) (j := 3) rfl rfl (by decide)), if_neg (md_ne hd (i := 15) (j := 5) rfl rfl (by decide)), if_neg (md_ne hd (i := 15) (j := 7) rfl rfl (by decide)), if_neg (md_ne hd (i := 15) (j := 8) rfl rfl (by decide)), if_neg (md_ne hd (i := 15) (j := 10) rfl rfl (by decide)), if_neg (md_ne hd (i := 15) (j := 11) rfl rfl (by decide)), if_neg (md_ne hd (i := 15) (j := 12) rfl rfl (by decide)), if_neg (md_ne hd (i := 15) (j := 13) rfl rfl (by decide)), if_neg (md_ne hd (i := 15) (j := 14) rfl rfl (by decide)), if_pos rfl]
theorem md_at_16 (hd : md_D L d) : mf g d f0 n mm sm kn mk r3 r5 r7 r8 r10 r11 r12 r13 r14 r15 r16 r17 r18 r19 r20 r21 r22 r23 (d 16) = hl_byr g r16 := by
  unfold mf
  rw [if_neg (md_ne hd (i := 16) (j := 0) rfl rfl (by decide)), if_neg (md_ne hd (i := 16) (j := 3) rfl rfl (by decide)), if_neg (md_ne hd (i := 16) (j := 5) rfl rfl (by decide)), if_neg (md_ne hd (i := 16) (j := 7) rfl rfl (by decide)), if_neg (md_ne hd (i := 16) (j := 8) rfl rfl (by decide)), if_neg (md_ne hd (i := 16) (j := 10) rfl rfl (by decide)), if_neg (md_ne hd (i := 16) (j := 11) rfl rfl (by decide)), if_neg (md_ne hd (i := 16) (j := 12) rfl rfl (by decide)), if_neg (md_ne hd (i := 16) (j := 13) rfl rfl (by decide)), if_neg (md_ne hd (i := 16) (j := 14) rfl rfl (by decide)), if_neg (md_ne hd (i := 16) (j := 15) rfl rfl (by decide)), if_pos rfl]
theorem md_at_17 (hd : md_D L d) : mf g d f0 n mm sm kn mk r3 r5 r7 r8 r10 r11 r12 r13 r14 r15 r16 r17 r18 r19 r20 r21 r22 r23 (d 17) = hl_zat g 24 r17 := by
  unfold mf
  rw [if_neg (md_ne hd (i := 17) (j := 0) rfl rfl (by decide)), if_neg (md_ne hd (i := 17) (j := 3) rfl rfl (by decide)), if_neg (md_ne hd (i := 17) (j := 5) rfl rfl (by decide)), if_neg (md_ne hd (i := 17) (j := 7) rfl rfl (by decide)), if_neg (md_ne hd (i := 17) (j := 8) rfl rfl (by decide)), if_neg (md_ne hd (i := 17) (j := 10) rfl rfl (by decide)), if_neg (md_ne hd (i := 17) (j := 11) rfl rfl (by decide)), if_neg (md_ne hd (i := 17) (j := 12) rfl rfl (by decide)), if_neg (md_ne hd (i := 17) (j := 13) rfl rfl (by decide)), if_neg (md_ne hd (i := 17) (j := 14) rfl rfl (by decide)), if_neg (md_ne hd (i := 17) (j := 15) rfl rfl (by decide)), if_neg (md_ne hd (i := 17) (j := 16) rfl rfl (by decide)), if_pos rfl]
theorem md_at_18 (hd : md_D L d) : mf g d f0 n mm sm kn mk r3 r5 r7 r8 r10 r11 r12 r13 r14 r15 r16 r17 r18 r19 r20 r21 r22 r23 (d 18) = hl_nat g 24 r18 := by
  unfold mf
  rw [if_neg (md_ne hd (i := 18) (j := 0) rfl rfl (by decide)), if_neg (md_ne hd (i := 18) (j := 3) rfl rfl (by decide)), if_neg (md_ne hd (i := 18) (j := 5) rfl rfl (by decide)), if_neg (md_ne hd (i := 18) (j := 7) rfl rfl (by decide)), if_neg (md_ne hd (i := 18) (j := 8) rfl rfl (by decide)), if_neg (md_ne hd (i := 18) (j := 10) rfl rfl (by decide)), if_neg (md_ne hd (i := 18) (j := 11) rfl rfl (by decide)), if_neg (md_ne hd (i := 18) (j := 12) rfl rfl (by decide)), if_neg (md_ne hd (i := 18) (j := 13) rfl rfl (by decide)), if_neg (md_ne hd (i := 18) (j := 14) rfl rfl (by decide)), if_neg (md_ne hd (i := 18) (j := 15) rfl rfl (by decide)), if_neg (md_ne hd (i := 18) (j := 16) rfl rfl (by decide)), if_neg (md_ne hd (i := 18) (j := 17) rfl rfl (by decide)), if_pos rfl]
theorem md_at_19 (hd : md_D L d) : mf g d f0 n mm sm kn mk r3 r5 r7 r8 r10 r11 r12 r13 r14 r15 r16 r17 r18 r19 r20 r21 r22 r23 (d 19) = hl_nat g 24 r19 := by
  unfold mf
  rw [if_neg (md_ne hd (i := 19) (j := 0) rfl rfl (by decide)), if_neg (md_ne hd (i := 19) (j := 3) rfl rfl (by decide)), if_neg (md_ne hd (i := 19) (j := 5) rfl rfl (by decide)), if_neg (md_ne hd (i := 19) (j := 7) rfl rfl (by decide)), if_neg (md_ne hd (i := 19) (j := 8) rfl rfl (by decide)), if_neg (md_ne hd (i := 19) (j := 10) rfl rfl (by decide)), if_neg (md_ne hd (i := 19) (j := 11) rfl rfl (by decide)), if_neg (md_ne hd (i := 19) (j := 12) rfl rfl (by decide)), if_neg (md_ne hd (i := 19) (j := 13) rfl rfl (by decide)), if_neg (md_ne hd (i := 19) (j := 14) rfl rfl (by decide)), if_neg (md_ne hd (i := 19) (j := 15) rfl rfl (by decide)), if_neg (md_ne hd (i := 19) (j := 16) rfl rfl (by decide)), if_neg (md_ne hd (i := 19) (j := 17) rfl rfl (by decide)), if_neg (md_ne hd (i := 19) (j := 18) rfl rfl (by decide)), if_pos rfl]
theorem md_at_20 (hd : md_D L d) : mf g d f0 n mm sm kn mk r3 r5 r7 r8 r10 r11 r12 r13 r14 r15 r16 r17 r18 r19 r20 r21 r22 r23 (d 20) = hl_nat g 24 r20 := by
  unfold mf
  rw [if_neg (md_ne hd (i := 20) (j := 0) rfl rfl (by decide)), if_neg (md_ne hd (i := 20) (j := 3) rfl rfl (by decide)), if_neg (md_ne hd (i := 20) (j := 5) rfl rfl (by decide)), if_neg (md_ne hd (i := 20) (j := 7) rfl rfl (by decide)), if_neg (md_ne hd (i := 20) (j := 8) rfl rfl (by decide)), if_neg (md_ne hd (i := 20) (j := 10) rfl rfl (by decide)), if_neg (md_ne hd (i := 20) (j := 11) rfl rfl (by decide)), if_neg (md_ne hd (i := 20) (j := 12) rfl rfl (by decide)), if_neg (md_ne hd (i := 20) (j := 13) rfl rfl (by decide)), if_neg (md_ne hd (i := 20) (j := 14) rfl rfl (by decide)), if_neg (md_ne hd (i := 20) (j := 15) rfl rfl (by decide)), if_neg (md_ne hd (i := 20) (j := 16) rfl rfl (by decide)), if_neg (md_ne hd (i := 20) (j := 17) rfl rfl (by decide)), if_neg (md_ne hd (i := 20) (j := 18) rfl rfl (by decide)), if_neg (md_ne hd (i := 20) (j := 19) rfl rfl (by decide)), if_pos rfl]
theorem md_at_21 (hd : md_D L d) : mf g d f0 n mm sm kn mk r3 r5 r7 r8 r10 r11 r12 r13 r14 r15 r16 r17 r18 r19 r20 r21 r22 r23 (d 21) = hl_nat g 40 r21 := by
  unfold mf
  rw [if_neg (md_ne hd (i := 21) (j := 0) rfl rfl (by decide)), if_neg (md_ne hd (i := 21) (j := 3) rfl rfl (by decide)), if_neg (md_ne hd (i := 21) (j := 5) rfl rfl (by decide)), if_neg (md_ne hd (i := 21) (j := 7) rfl rfl (by decide)), if_neg (md_ne hd (i := 21) (j := 8) rfl rfl (by decide)), if_neg (md_ne hd (i := 21) (j := 10) rfl rfl (by decide)), if_neg (md_ne hd (i := 21) (j := 11) rfl rfl (by decide)), if_neg (md_ne hd (i := 21) (j := 12) rfl rfl (by decide)), if_neg (md_ne hd (i := 21) (j := 13) rfl rfl (by decide)), if_neg (md_ne hd (i := 21) (j := 14) rfl rfl (by decide)), if_neg (md_ne hd (i := 21) (j := 15) rfl rfl (by decide)), if_neg (md_ne hd (i := 21) (j := 16) rfl rfl (by decide)), if_neg (md_ne hd (i := 21) (j := 17) rfl rfl (by decide)), if_neg (md_ne hd (i := 21) (j := 18) rfl rfl (by decide)), if_neg (md_ne hd (i := 21) (j := 19) rfl rfl (by decide)), if_neg (md_ne hd (i := 21) (j := 20) rfl rfl (by decide)), if_pos rfl]
theorem md_at_22 (hd : md_D L d) : mf g d f0 n mm sm kn mk r3 r5 r7 r8 r10 r11 r12 r13 r14 r15 r16 r17 r18 r19 r20 r21 r22 r23 (d 22) = hl_nat g 24 r22 := by
  unfold mf
  rw [if_neg (md_ne hd (i := 22) (j := 0) rfl rfl (by decide)), if_neg (md_ne hd (i := 22) (j := 3) rfl rfl (by decide)), if_neg (md_ne hd (i := 22) (j := 5) rfl rfl (by decide)), if_neg (md_ne hd (i := 22) (j := 7) rfl rfl (by decide)), if_neg (md_ne hd (i := 22) (j := 8) rfl rfl (by decide)), if_neg (md_ne hd (i := 22) (j := 10) rfl rfl (by decide)), if_neg (md_ne hd (i := 22) (j := 11) rfl rfl (by decide)), if_neg (md_ne hd (i := 22) (j := 12) rfl rfl (by decide)), if_neg (md_ne hd (i := 22) (j := 13) rfl rfl (by decide)), if_neg (md_ne hd (i := 22) (j := 14) rfl rfl (by decide)), if_neg (md_ne hd (i := 22) (j := 15) rfl rfl (by decide)), if_neg (md_ne hd (i := 22) (j := 16) rfl rfl (by decide)), if_neg (md_ne hd (i := 22) (j := 17) rfl rfl (by decide)), if_neg (md_ne hd (i := 22) (j := 18) rfl rfl (by decide)), if_neg (md_ne hd (i := 22) (j := 19) rfl rfl (by decide)), if_neg (md_ne hd (i := 22) (j := 20) rfl rfl (by decide)), if_neg (md_ne hd (i := 22) (j := 21) rfl rfl (by decide)), if_pos rfl]
theorem md_at_23 (hd : md_D L d) : mf g d f0 n mm sm kn mk r3 r5 r7 r8 r10 r11 r12 r13 r14 r15 r16 r17 r18 r19 r20 r21 r22 r23 (d 23) = hl_nat g 576 r23 := by
  unfold mf
  rw [if_neg (md_ne hd (i := 23) (j := 0) rfl rfl (by decide)), if_neg (md_ne hd (i := 23) (j := 3) rfl rfl (by decide)), if_neg (md_ne hd (i := 23) (j := 5) rfl rfl (by decide)), if_neg (md_ne hd (i := 23) (j := 7) rfl rfl (by decide)), if_neg (md_ne hd (i := 23) (j := 8) rfl rfl (by decide)), if_neg (md_ne hd (i := 23) (j := 10) rfl rfl (by decide)), if_neg (md_ne hd (i := 23) (j := 11) rfl rfl (by decide)), if_neg (md_ne hd (i := 23) (j := 12) rfl rfl (by decide)), if_neg (md_ne hd (i := 23) (j := 13) rfl rfl (by decide)), if_neg (md_ne hd (i := 23) (j := 14) rfl rfl (by decide)), if_neg (md_ne hd (i := 23) (j := 15) rfl rfl (by decide)), if_neg (md_ne hd (i := 23) (j := 16) rfl rfl (by decide)), if_neg (md_ne hd (i := 23) (j := 17) rfl rfl (by decide)), if_neg (md_ne hd (i := 23) (j := 18) rfl rfl (by decide)), if_neg (md_ne hd (i := 23) (j := 19) rfl rfl (by decide)), if_neg (md_ne hd (i := 23) (j := 20) rfl rfl (by decide)), if_neg (md_ne hd (i := 23) (j := 21) rfl rfl (by decide)), if_neg (md_ne hd (i := 23) (j := 22) rfl rfl (by decide)), if_pos rfl]
theorem md_out {a : Nat} (h : ∀ k, md_i k = true → a ≠ d k) : mf g d f0 n mm sm kn mk r3 r5 r7 r8 r10 r11 r12 r13 r14 r15 r16 r17 r18 r19 r20 r21 r22 r23 a = f0 a := by
  unfold mf
  rw [if_neg (h 0 rfl), if_neg (h 3 rfl), if_neg (h 5 rfl), if_neg (h 7 rfl), if_neg (h 8 rfl), if_neg (h 10 rfl), if_neg (h 11 rfl), if_neg (h 12 rfl), if_neg (h 13 rfl), if_neg (h 14 rfl), if_neg (h 15 rfl), if_neg (h 16 rfl), if_neg (h 17 rfl), if_neg (h 18 rfl), if_neg (h 19 rfl), if_neg (h 20 rfl), if_neg (h 21 rfl), if_neg (h 22 rfl), if_neg (h 23 rfl)]
theorem md_set_3 {x : Nat → Nat} (hd : md_D L d) (h : hl_H g A H0 L (va_up (mf g d f0 n mm sm kn mk r3 r5 r7 r8 r10 r11 r12 r13 r14 r15 r16 r17 r18 r19 r20 r21 r22 r23) (d 3) (hl_nat g 240 x)) H locs) : hl_H g A H0 L (mf g d f0 n mm sm kn mk x r5 r7 r8 r10 r11 r12 r13 r14 r15 r16 r17 r18 r19 r20 r21 r22 r23) H locs := by
  have e : va_up (mf g d f0 n mm sm kn mk r3 r5 r7 r8 r10 r11 r12 r13 r14 r15 r16 r17 r18 r19 r20 r21 r22 r23) (d 3) (hl_nat g 240 x) = mf g d f0 n mm sm kn mk x r5 r7 r8 r10 r11 r12 r13 r14 r15 r16 r17 r18 r19 r20 r21 r22 r23 := by
    funext a
    by_cases h : a = d 3
    · subst h; rw [va_up_self, md_at_3 hd]
    · rw [va_up_ne _ _ h]; unfold mf; simp only [h, if_false]
  rw [e] at h
  exact h
theorem md_set_5 {x : Nat → Nat} (hd : md_D L d) (h : hl_H g A H0 L (va_up (mf g d f0 n mm sm kn mk r3 r5 r7 r8 r10 r11 r12 r13 r14 r15 r16 r17 r18 r19 r20 r21 r22 r23) (d 5) (hl_nat g 480 x)) H locs) : hl_H g A H0 L (mf g d f0 n mm sm kn mk r3 x r7 r8 r10 r11 r12 r13 r14 r15 r16 r17 r18 r19 r20 r21 r22 r23) H locs := by
  have e : va_up (mf g d f0 n mm sm kn mk r3 r5 r7 r8 r10 r11 r12 r13 r14 r15 r16 r17 r18 r19 r20 r21 r22 r23) (d 5) (hl_nat g 480 x) = mf g d f0 n mm sm kn mk r3 x r7 r8 r10 r11 r12 r13 r14 r15 r16 r17 r18 r19 r20 r21 r22 r23 := by
    funext a
    by_cases h : a = d 5
    · subst h; rw [va_up_self, md_at_5 hd]
    · rw [va_up_ne _ _ h]; unfold mf; simp only [h, if_false]
  rw [e] at h
  exact h
theorem md_set_7 {x : Nat → Nat} (hd : md_D L d) (h : hl_H g A H0 L (va_up (mf g d f0 n mm sm kn mk r3 r5 r7 r8 r10 r11 r12 r13 r14 r15 r16 r17 r18 r19 r20 r21 r22 r23) (d 7) (hl_nat g 13824 x)) H locs) : hl_H g A H0 L (mf g d f0 n mm sm kn mk r3 r5 x r8 r10 r11 r12 r13 r14 r15 r16 r17 r18 r19 r20 r21 r22 r23) H locs := by
  have e : va_up (mf g d f0 n mm sm kn mk r3 r5 r7 r8 r10 r11 r12 r13 r14 r15 r16 r17 r18 r19 r20 r21 r22 r23) (d 7) (hl_nat g 13824 x) = mf g d f0 n mm sm kn mk r3 r5 x r8 r10 r11 r12 r13 r14 r15 r16 r17 r18 r19 r20 r21 r22 r23 := by
    funext a
    by_cases h : a = d 7
    · subst h; rw [va_up_self, md_at_7 hd]
    · rw [va_up_ne _ _ h]; unfold mf; simp only [h, if_false]
  rw [e] at h
  exact h
theorem md_set_8 {x : Nat → Nat} (hd : md_D L d) (h : hl_H g A H0 L (va_up (mf g d f0 n mm sm kn mk r3 r5 r7 r8 r10 r11 r12 r13 r14 r15 r16 r17 r18 r19 r20 r21 r22 r23) (d 8) (hl_zat g 576 x)) H locs) : hl_H g A H0 L (mf g d f0 n mm sm kn mk r3 r5 r7 x r10 r11 r12 r13 r14 r15 r16 r17 r18 r19 r20 r21 r22 r23) H locs := by
  have e : va_up (mf g d f0 n mm sm kn mk r3 r5 r7 r8 r10 r11 r12 r13 r14 r15 r16 r17 r18 r19 r20 r21 r22 r23) (d 8) (hl_zat g 576 x) = mf g d f0 n mm sm kn mk r3 r5 r7 x r10 r11 r12 r13 r14 r15 r16 r17 r18 r19 r20 r21 r22 r23 := by
    funext a
    by_cases h : a = d 8
    · subst h; rw [va_up_self, md_at_8 hd]
    · rw [va_up_ne _ _ h]; unfold mf; simp only [h, if_false]
  rw [e] at h
  exact h
theorem md_set_10 {x : Nat → Nat} (hd : md_D L d) (h : hl_H g A H0 L (va_up (mf g d f0 n mm sm kn mk r3 r5 r7 r8 r10 r11 r12 r13 r14 r15 r16 r17 r18 r19 r20 r21 r22 r23) (d 10) (hl_nat g 576 x)) H locs) : hl_H g A H0 L (mf g d f0 n mm sm kn mk r3 r5 r7 r8 x r11 r12 r13 r14 r15 r16 r17 r18 r19 r20 r21 r22 r23) H locs := by
  have e : va_up (mf g d f0 n mm sm kn mk r3 r5 r7 r8 r10 r11 r12 r13 r14 r15 r16 r17 r18 r19 r20 r21 r22 r23) (d 10) (hl_nat g 576 x) = mf g d f0 n mm sm kn mk r3 r5 r7 r8 x r11 r12 r13 r14 r15 r16 r17 r18 r19 r20 r21 r22 r23 := by
    funext a
    by_cases h : a = d 10
    · subst h; rw [va_up_self, md_at_10 hd]
    · rw [va_up_ne _ _ h]; unfold mf; simp only [h, if_false]
  rw [e] at h
  exact h
theorem md_set_11 {x : Nat → Nat} (hd : md_D L d) (h : hl_H g A H0 L (va_up (mf g d f0 n mm sm kn mk r3 r5 r7 r8 r10 r11 r12 r13 r14 r15 r16 r17 r18 r19 r20 r21 r22 r23) (d 11) (hl_nat g 24 x)) H locs) : hl_H g A H0 L (mf g d f0 n mm sm kn mk r3 r5 r7 r8 r10 x r12 r13 r14 r15 r16 r17 r18 r19 r20 r21 r22 r23) H locs := by
  have e : va_up (mf g d f0 n mm sm kn mk r3 r5 r7 r8 r10 r11 r12 r13 r14 r15 r16 r17 r18 r19 r20 r21 r22 r23) (d 11) (hl_nat g 24 x) = mf g d f0 n mm sm kn mk r3 r5 r7 r8 r10 x r12 r13 r14 r15 r16 r17 r18 r19 r20 r21 r22 r23 := by
    funext a
    by_cases h : a = d 11
    · subst h; rw [va_up_self, md_at_11 hd]
    · rw [va_up_ne _ _ h]; unfold mf; simp only [h, if_false]
  rw [e] at h
  exact h
theorem md_set_12 {x : Nat → Nat} (hd : md_D L d) (h : hl_H g A H0 L (va_up (mf g d f0 n mm sm kn mk r3 r5 r7 r8 r10 r11 r12 r13 r14 r15 r16 r17 r18 r19 r20 r21 r22 r23) (d 12) (hl_nat g 24 x)) H locs) : hl_H g A H0 L (mf g d f0 n mm sm kn mk r3 r5 r7 r8 r10 r11 x r13 r14 r15 r16 r17 r18 r19 r20 r21 r22 r23) H locs := by
  have e : va_up (mf g d f0 n mm sm kn mk r3 r5 r7 r8 r10 r11 r12 r13 r14 r15 r16 r17 r18 r19 r20 r21 r22 r23) (d 12) (hl_nat g 24 x) = mf g d f0 n mm sm kn mk r3 r5 r7 r8 r10 r11 x r13 r14 r15 r16 r17 r18 r19 r20 r21 r22 r23 := by
    funext a
    by_cases h : a = d 12
    · subst h; rw [va_up_self, md_at_12 hd]
    · rw [va_up_ne _ _ h]; unfold mf; simp only [h, if_false]
  rw [e] at h
  exact h
theorem md_set_13 {x : Nat → Nat} (hd : md_D L d) (h : hl_H g A H0 L (va_up (mf g d f0 n mm sm kn mk r3 r5 r7 r8 r10 r11 r12 r13 r14 r15 r16 r17 r18 r19 r20 r21 r22 r23) (d 13) (hl_nat g 576 x)) H locs) : hl_H g A H0 L (mf g d f0 n mm sm kn mk r3 r5 r7 r8 r10 r11 r12 x r14 r15 r16 r17 r18 r19 r20 r21 r22 r23) H locs := by
  have e : va_up (mf g d f0 n mm sm kn mk r3 r5 r7 r8 r10 r11 r12 r13 r14 r15 r16 r17 r18 r19 r20 r21 r22 r23) (d 13) (hl_nat g 576 x) = mf g d f0 n mm sm kn mk r3 r5 r7 r8 r10 r11 r12 x r14 r15 r16 r17 r18 r19 r20 r21 r22 r23 := by
    funext a
    by_cases h : a = d 13
    · subst h; rw [va_up_self, md_at_13 hd]
    · rw [va_up_ne _ _ h]; unfold mf; simp only [h, if_false]
  rw [e] at h
  exact h
theorem md_set_14 {x : Nat → Nat} (hd : md_D L d) (h : hl_H g A H0 L (va_up (mf g d f0 n mm sm kn mk r3 r5 r7 r8 r10 r11 r12 r13 r14 r15 r16 r17 r18 r19 r20 r21 r22 r23) (d 14) (hl_zat g 24 x)) H locs) : hl_H g A H0 L (mf g d f0 n mm sm kn mk r3 r5 r7 r8 r10 r11 r12 r13 x r15 r16 r17 r18 r19 r20 r21 r22 r23) H locs := by
  have e : va_up (mf g d f0 n mm sm kn mk r3 r5 r7 r8 r10 r11 r12 r13 r14 r15 r16 r17 r18 r19 r20 r21 r22 r23) (d 14) (hl_zat g 24 x) = mf g d f0 n mm sm kn mk r3 r5 r7 r8 r10 r11 r12 r13 x r15 r16 r17 r18 r19 r20 r21 r22 r23 := by
    funext a
    by_cases h : a = d 14
    · subst h; rw [va_up_self, md_at_14 hd]
    · rw [va_up_ne _ _ h]; unfold mf; simp only [h, if_false]
  rw [e] at h
  exact h
theorem md_set_15 {x : Nat → Nat} (hd : md_D L d) (h : hl_H g A H0 L (va_up (mf g d f0 n mm sm kn mk r3 r5 r7 r8 r10 r11 r12 r13 r14 r15 r16 r17 r18 r19 r20 r21 r22 r23) (d 15) (hl_nat g 24 x)) H locs) : hl_H g A H0 L (mf g d f0 n mm sm kn mk r3 r5 r7 r8 r10 r11 r12 r13 r14 x r16 r17 r18 r19 r20 r21 r22 r23) H locs := by
  have e : va_up (mf g d f0 n mm sm kn mk r3 r5 r7 r8 r10 r11 r12 r13 r14 r15 r16 r17 r18 r19 r20 r21 r22 r23) (d 15) (hl_nat g 24 x) = mf g d f0 n mm sm kn mk r3 r5 r7 r8 r10 r11 r12 r13 r14 x r16 r17 r18 r19 r20 r21 r22 r23 := by
    funext a
    by_cases h : a = d 15
    · subst h; rw [va_up_self, md_at_15 hd]
    · rw [va_up_ne _ _ h]; unfold mf; simp only [h, if_false]
  rw [e] at h
  exact h
theorem md_set_16 {x : Nat → Nat} (hd : md_D L d) (h : hl_H g A H0 L (va_up (mf g d f0 n mm sm kn mk r3 r5 r7 r8 r10 r11 r12 r13 r14 r15 r16 r17 r18 r19 r20 r21 r22 r23) (d 16) (hl_byr g x)) H locs) : hl_H g A H0 L (mf g d f0 n mm sm kn mk r3 r5 r7 r8 r10 r11 r12 r13 r14 r15 x r17 r18 r19 r20 r21 r22 r23) H locs := by
  have e : va_up (mf g d f0 n mm sm kn mk r3 r5 r7 r8 r10 r11 r12 r13 r14 r15 r16 r17 r18 r19 r20 r21 r22 r23) (d 16) (hl_byr g x) = mf g d f0 n mm sm kn mk r3 r5 r7 r8 r10 r11 r12 r13 r14 r15 x r17 r18 r19 r20 r21 r22 r23 := by
    funext a
    by_cases h : a = d 16
    · subst h; rw [va_up_self, md_at_16 hd]
    · rw [va_up_ne _ _ h]; unfold mf; simp only [h, if_false]
  rw [e] at h
  exact h
theorem md_set_17 {x : Nat → Nat} (hd : md_D L d) (h : hl_H g A H0 L (va_up (mf g d f0 n mm sm kn mk r3 r5 r7 r8 r10 r11 r12 r13 r14 r15 r16 r17 r18 r19 r20 r21 r22 r23) (d 17) (hl_zat g 24 x)) H locs) : hl_H g A H0 L (mf g d f0 n mm sm kn mk r3 r5 r7 r8 r10 r11 r12 r13 r14 r15 r16 x r18 r19 r20 r21 r22 r23) H locs := by
  have e : va_up (mf g d f0 n mm sm kn mk r3 r5 r7 r8 r10 r11 r12 r13 r14 r15 r16 r17 r18 r19 r20 r21 r22 r23) (d 17) (hl_zat g 24 x) = mf g d f0 n mm sm kn mk r3 r5 r7 r8 r10 r11 r12 r13 r14 r15 r16 x r18 r19 r20 r21 r22 r23 := by
    funext a
    by_cases h : a = d 17
    · subst h; rw [va_up_self, md_at_17 hd]
    · rw [va_up_ne _ _ h]; unfold mf; simp only [h, if_false]
  rw [e] at h
  exact h
theorem md_set_18 {x : Nat → Nat} (hd : md_D L d) (h : hl_H g A H0 L (va_up (mf g d f0 n mm sm kn mk r3 r5 r7 r8 r10 r11 r12 r13 r14 r15 r16 r17 r18 r19 r20 r21 r22 r23) (d 18) (hl_nat g 24 x)) H locs) : hl_H g A H0 L (mf g d f0 n mm sm kn mk r3 r5 r7 r8 r10 r11 r12 r13 r14 r15 r16 r17 x r19 r20 r21 r22 r23) H locs := by
  have e : va_up (mf g d f0 n mm sm kn mk r3 r5 r7 r8 r10 r11 r12 r13 r14 r15 r16 r17 r18 r19 r20 r21 r22 r23) (d 18) (hl_nat g 24 x) = mf g d f0 n mm sm kn mk r3 r5 r7 r8 r10 r11 r12 r13 r14 r15 r16 r17 x r19 r20 r21 r22 r23 := by
    funext a
    by_cases h : a = d 18
    · subst h; rw [va_up_self, md_at_18 hd]
    · rw [va_up_ne _ _ h]; unfold mf; simp only [h, if_false]
  rw [e] at h
  exact h
theorem md_set_19 {x : Nat → Nat} (hd : md_D L d) (h : hl_H g A H0 L (va_up (mf g d f0 n mm sm kn mk r3 r5 r7 r8 r10 r11 r12 r13 r14 r15 r16 r17 r18 r19 r20 r21 r22 r23) (d 19) (hl_nat g 24 x)) H locs) : hl_H g A H0 L (mf g d f0 n mm sm kn mk r3 r5 r7 r8 r10 r11 r12 r13 r14 r15 r16 r17 r18 x r20 r21 r22 r23) H locs := by
  have e : va_up (mf g d f0 n mm sm kn mk r3 r5 r7 r8 r10 r11 r12 r13 r14 r15 r16 r17 r18 r19 r20 r21 r22 r23) (d 19) (hl_nat g 24 x) = mf g d f0 n mm sm kn mk r3 r5 r7 r8 r10 r11 r12 r13 r14 r15 r16 r17 r18 x r20 r21 r22 r23 := by
    funext a
    by_cases h : a = d 19
    · subst h; rw [va_up_self, md_at_19 hd]
    · rw [va_up_ne _ _ h]; unfold mf; simp only [h, if_false]
  rw [e] at h
  exact h
theorem md_set_20 {x : Nat → Nat} (hd : md_D L d) (h : hl_H g A H0 L (va_up (mf g d f0 n mm sm kn mk r3 r5 r7 r8 r10 r11 r12 r13 r14 r15 r16 r17 r18 r19 r20 r21 r22 r23) (d 20) (hl_nat g 24 x)) H locs) : hl_H g A H0 L (mf g d f0 n mm sm kn mk r3 r5 r7 r8 r10 r11 r12 r13 r14 r15 r16 r17 r18 r19 x r21 r22 r23) H locs := by
  have e : va_up (mf g d f0 n mm sm kn mk r3 r5 r7 r8 r10 r11 r12 r13 r14 r15 r16 r17 r18 r19 r20 r21 r22 r23) (d 20) (hl_nat g 24 x) = mf g d f0 n mm sm kn mk r3 r5 r7 r8 r10 r11 r12 r13 r14 r15 r16 r17 r18 r19 x r21 r22 r23 := by
    funext a
    by_cases h : a = d 20
    · subst h; rw [va_up_self, md_at_20 hd]
    · rw [va_up_ne _ _ h]; unfold mf; simp only [h, if_false]
  rw [e] at h
  exact h
theorem md_set_21 {x : Nat → Nat} (hd : md_D L d) (h : hl_H g A H0 L (va_up (mf g d f0 n mm sm kn mk r3 r5 r7 r8 r10 r11 r12 r13 r14 r15 r16 r17 r18 r19 r20 r21 r22 r23) (d 21) (hl_nat g 40 x)) H locs) : hl_H g A H0 L (mf g d f0 n mm sm kn mk r3 r5 r7 r8 r10 r11 r12 r13 r14 r15 r16 r17 r18 r19 r20 x r22 r23) H locs := by
  have e : va_up (mf g d f0 n mm sm kn mk r3 r5 r7 r8 r10 r11 r12 r13 r14 r15 r16 r17 r18 r19 r20 r21 r22 r23) (d 21) (hl_nat g 40 x) = mf g d f0 n mm sm kn mk r3 r5 r7 r8 r10 r11 r12 r13 r14 r15 r16 r17 r18 r19 r20 x r22 r23 := by
    funext a
    by_cases h : a = d 21
    · subst h; rw [va_up_self, md_at_21 hd]
    · rw [va_up_ne _ _ h]; unfold mf; simp only [h, if_false]
  rw [e] at h
  exact h
theorem md_set_22 {x : Nat → Nat} (hd : md_D L d) (h : hl_H g A H0 L (va_up (mf g d f0 n mm sm kn mk r3 r5 r7 r8 r10 r11 r12 r13 r14 r15 r16 r17 r18 r19 r20 r21 r22 r23) (d 22) (hl_nat g 24 x)) H locs) : hl_H g A H0 L (mf g d f0 n mm sm kn mk r3 r5 r7 r8 r10 r11 r12 r13 r14 r15 r16 r17 r18 r19 r20 r21 x r23) H locs := by
  have e : va_up (mf g d f0 n mm sm kn mk r3 r5 r7 r8 r10 r11 r12 r13 r14 r15 r16 r17 r18 r19 r20 r21 r22 r23) (d 22) (hl_nat g 24 x) = mf g d f0 n mm sm kn mk r3 r5 r7 r8 r10 r11 r12 r13 r14 r15 r16 r17 r18 r19 r20 r21 x r23 := by
    funext a
    by_cases h : a = d 22
    · subst h; rw [va_up_self, md_at_22 hd]
    · rw [va_up_ne _ _ h]; unfold mf; simp only [h, if_false]
  rw [e] at h
  exact h
theorem md_set_23 {x : Nat → Nat} (hd : md_D L d) (h : hl_H g A H0 L (va_up (mf g d f0 n mm sm kn mk r3 r5 r7 r8 r10 r11 r12 r13 r14 r15 r16 r17 r18 r19 r20 r21 r22 r23) (d 23) (hl_nat g 576 x)) H locs) : hl_H g A H0 L (mf g d f0 n mm sm kn mk r3 r5 r7 r8 r10 r11 r12 r13 r14 r15 r16 r17 r18 r19 r20 r21 r22 x) H locs := by
  have e : va_up (mf g d f0 n mm sm kn mk r3 r5 r7 r8 r10 r11 r12 r13 r14 r15 r16 r17 r18 r19 r20 r21 r22 r23) (d 23) (hl_nat g 576 x) = mf g d f0 n mm sm kn mk r3 r5 r7 r8 r10 r11 r12 r13 r14 r15 r16 r17 r18 r19 r20 r21 r22 x := by
    funext a
    by_cases h : a = d 23
    · subst h; rw [va_up_self, md_at_23 hd]
    · rw [va_up_ne _ _ h]; unfold mf; simp only [h, if_false]
  rw [e] at h
  exact h
theorem md_set_0 {n2 mm2 sm2 kn2 mk2 : Nat} (h : hl_H g A H0 L (va_up (mf g d f0 n mm sm kn mk r3 r5 r7 r8 r10 r11 r12 r13 r14 r15 r16 r17 r18 r19 r20 r21 r22 r23) (d 0) (.inr (5, [.int (nI n2), .int 0, .int (nI mm2), .ref (d 3), .int (nI sm2), .ref (d 5), .int (nI kn2), .ref (d 7), .ref (d 8), .int (nI mk2), .ref (d 10), .ref (d 11), .ref (d 12), .ref (d 13), .ref (d 14), .ref (d 15), .ref (d 16), .ref (d 17), .ref (d 18), .ref (d 19), .ref (d 20), .ref (d 21), .ref (d 22), .ref (d 23)]))) H locs) : hl_H g A H0 L (mf g d f0 n2 mm2 sm2 kn2 mk2 r3 r5 r7 r8 r10 r11 r12 r13 r14 r15 r16 r17 r18 r19 r20 r21 r22 r23) H locs := by
  have e : va_up (mf g d f0 n mm sm kn mk r3 r5 r7 r8 r10 r11 r12 r13 r14 r15 r16 r17 r18 r19 r20 r21 r22 r23) (d 0) (.inr (5, [.int (nI n2), .int 0, .int (nI mm2), .ref (d 3), .int (nI sm2), .ref (d 5), .int (nI kn2), .ref (d 7), .ref (d 8), .int (nI mk2), .ref (d 10), .ref (d 11), .ref (d 12), .ref (d 13), .ref (d 14), .ref (d 15), .ref (d 16), .ref (d 17), .ref (d 18), .ref (d 19), .ref (d 20), .ref (d 21), .ref (d 22), .ref (d 23)])) = mf g d f0 n2 mm2 sm2 kn2 mk2 r3 r5 r7 r8 r10 r11 r12 r13 r14 r15 r16 r17 r18 r19 r20 r21 r22 r23 := by
    funext a
    by_cases h : a = d 0
    · subst h; rw [va_up_self, md_at_0]
    · rw [va_up_ne _ _ h]; unfold mf; simp only [h, if_false]
  rw [e] at h
  exact h
theorem md_self {f : Nat → va_E} (h0 : f (d 0) = .inr (5, [.int (nI n), .int 0, .int (nI mm), .ref (d 3), .int (nI sm), .ref (d 5), .int (nI kn), .ref (d 7), .ref (d 8), .int (nI mk), .ref (d 10), .ref (d 11), .ref (d 12), .ref (d 13), .ref (d 14), .ref (d 15), .ref (d 16), .ref (d 17), .ref (d 18), .ref (d 19), .ref (d 20), .ref (d 21), .ref (d 22), .ref (d 23)])) (h3 : f (d 3) = hl_nat g 240 r3) (h5 : f (d 5) = hl_nat g 480 r5) (h7 : f (d 7) = hl_nat g 13824 r7) (h8 : f (d 8) = hl_zat g 576 r8) (h10 : f (d 10) = hl_nat g 576 r10) (h11 : f (d 11) = hl_nat g 24 r11) (h12 : f (d 12) = hl_nat g 24 r12) (h13 : f (d 13) = hl_nat g 576 r13) (h14 : f (d 14) = hl_zat g 24 r14) (h15 : f (d 15) = hl_nat g 24 r15) (h16 : f (d 16) = hl_byr g r16) (h17 : f (d 17) = hl_zat g 24 r17) (h18 : f (d 18) = hl_nat g 24 r18) (h19 : f (d 19) = hl_nat g 24 r19) (h20 : f (d 20) = hl_nat g 24 r20) (h21 : f (d 21) = hl_nat g 40 r21) (h22 : f (d 22) = hl_nat g 24 r22) (h23 : f (d 23) = hl_nat g 576 r23) : mf g d f n mm sm kn mk r3 r5 r7 r8 r10 r11 r12 r13 r14 r15 r16 r17 r18 r19 r20 r21 r22 r23 = f := by
  funext a
  unfold mf
  by_cases e0 : a = d 0
  · rw [if_pos e0, e0, h0]
  · rw [if_neg e0]
    by_cases e3 : a = d 3
    · rw [if_pos e3, e3, h3]
    rw [if_neg e3]
    by_cases e5 : a = d 5
    · rw [if_pos e5, e5, h5]
    rw [if_neg e5]
    by_cases e7 : a = d 7
    · rw [if_pos e7, e7, h7]
    rw [if_neg e7]
    by_cases e8 : a = d 8
    · rw [if_pos e8, e8, h8]
    rw [if_neg e8]
    by_cases e10 : a = d 10
    · rw [if_pos e10, e10, h10]
    rw [if_neg e10]
    by_cases e11 : a = d 11
    · rw [if_pos e11, e11, h11]
    rw [if_neg e11]
    by_cases e12 : a = d 12
    · rw [if_pos e12, e12, h12]
    rw [if_neg e12]
    by_cases e13 : a = d 13
    · rw [if_pos e13, e13, h13]
    rw [if_neg e13]
    by_cases e14 : a = d 14
    · rw [if_pos e14, e14, h14]
    rw [if_neg e14]
    by_cases e15 : a = d 15
    · rw [if_pos e15, e15, h15]
    rw [if_neg e15]
    by_cases e16 : a = d 16
    · rw [if_pos e16, e16, h16]
    rw [if_neg e16]
    by_cases e17 : a = d 17
    · rw [if_pos e17, e17, h17]
    rw [if_neg e17]
    by_cases e18 : a = d 18
    · rw [if_pos e18, e18, h18]
    rw [if_neg e18]
    by_cases e19 : a = d 19
    · rw [if_pos e19, e19, h19]
    rw [if_neg e19]
    by_cases e20 : a = d 20
    · rw [if_pos e20, e20, h20]
    rw [if_neg e20]
    by_cases e21 : a = d 21
    · rw [if_pos e21, e21, h21]
    rw [if_neg e21]
    by_cases e22 : a = d 22
    · rw [if_pos e22, e22, h22]
    rw [if_neg e22]
    by_cases e23 : a = d 23
    · rw [if_pos e23, e23, h23]
    rw [if_neg e23]

theorem md_nrm_3 {x : Nat → Nat} (hd : md_D L d) (h : hl_H g A H0 L (mf g d f0 n mm sm kn mk r3 r5 r7 r8 r10 r11 r12 r13 r14 r15 r16 r17 r18 r19 r20 r21 r22 r23) H locs) (hx : ∀ p, p < 240 → r3 p = x p) : hl_H g A H0 L (mf g d f0 n mm sm kn mk x r5 r7 r8 r10 r11 r12 r13 r14 r15 r16 r17 r18 r19 r20 r21 r22 r23) H locs := by
  have h : hl_H g A H0 L (va_up (mf g d f0 n mm sm kn mk r3 r5 r7 r8 r10 r11 r12 r13 r14 r15 r16 r17 r18 r19 r20 r21 r22 r23) (d 3) (hl_nat g 240 r3)) H locs := hl_same (md_at_3 hd) h
  exact md_set_3 hd (hl_norm (w := fun p => nI (x p)) h (fun p hp => by rw [hx p hp]))
theorem md_nrm_5 {x : Nat → Nat} (hd : md_D L d) (h : hl_H g A H0 L (mf g d f0 n mm sm kn mk r3 r5 r7 r8 r10 r11 r12 r13 r14 r15 r16 r17 r18 r19 r20 r21 r22 r23) H locs) (hx : ∀ p, p < 480 → r5 p = x p) : hl_H g A H0 L (mf g d f0 n mm sm kn mk r3 x r7 r8 r10 r11 r12 r13 r14 r15 r16 r17 r18 r19 r20 r21 r22 r23) H locs := by
  have h : hl_H g A H0 L (va_up (mf g d f0 n mm sm kn mk r3 r5 r7 r8 r10 r11 r12 r13 r14 r15 r16 r17 r18 r19 r20 r21 r22 r23) (d 5) (hl_nat g 480 r5)) H locs := hl_same (md_at_5 hd) h
  exact md_set_5 hd (hl_norm (w := fun p => nI (x p)) h (fun p hp => by rw [hx p hp]))
theorem md_nrm_7 {x : Nat → Nat} (hd : md_D L d) (h : hl_H g A H0 L (mf g d f0 n mm sm kn mk r3 r5 r7 r8 r10 r11 r12 r13 r14 r15 r16 r17 r18 r19 r20 r21 r22 r23) H locs) (hx : ∀ p, p < 13824 → r7 p = x p) : hl_H g A H0 L (mf g d f0 n mm sm kn mk r3 r5 x r8 r10 r11 r12 r13 r14 r15 r16 r17 r18 r19 r20 r21 r22 r23) H locs := by
  have h : hl_H g A H0 L (va_up (mf g d f0 n mm sm kn mk r3 r5 r7 r8 r10 r11 r12 r13 r14 r15 r16 r17 r18 r19 r20 r21 r22 r23) (d 7) (hl_nat g 13824 r7)) H locs := hl_same (md_at_7 hd) h
  exact md_set_7 hd (hl_norm (w := fun p => nI (x p)) h (fun p hp => by rw [hx p hp]))
theorem md_nrm_8 {x : Nat → Nat} (hd : md_D L d) (h : hl_H g A H0 L (mf g d f0 n mm sm kn mk r3 r5 r7 r8 r10 r11 r12 r13 r14 r15 r16 r17 r18 r19 r20 r21 r22 r23) H locs) (hx : ∀ p, p < 576 → r8 p = x p) : hl_H g A H0 L (mf g d f0 n mm sm kn mk r3 r5 r7 x r10 r11 r12 r13 r14 r15 r16 r17 r18 r19 r20 r21 r22 r23) H locs := by
  have h : hl_H g A H0 L (va_up (mf g d f0 n mm sm kn mk r3 r5 r7 r8 r10 r11 r12 r13 r14 r15 r16 r17 r18 r19 r20 r21 r22 r23) (d 8) (hl_zat g 576 r8)) H locs := hl_same (md_at_8 hd) h
  exact md_set_8 hd (hl_norm (w := fun p => nI (x p)) h (fun p hp => by rw [hx p hp]))
theorem md_nrm_10 {x : Nat → Nat} (hd : md_D L d) (h : hl_H g A H0 L (mf g d f0 n mm sm kn mk r3 r5 r7 r8 r10 r11 r12 r13 r14 r15 r16 r17 r18 r19 r20 r21 r22 r23) H locs) (hx : ∀ p, p < 576 → r10 p = x p) : hl_H g A H0 L (mf g d f0 n mm sm kn mk r3 r5 r7 r8 x r11 r12 r13 r14 r15 r16 r17 r18 r19 r20 r21 r22 r23) H locs := by
  have h : hl_H g A H0 L (va_up (mf g d f0 n mm sm kn mk r3 r5 r7 r8 r10 r11 r12 r13 r14 r15 r16 r17 r18 r19 r20 r21 r22 r23) (d 10) (hl_nat g 576 r10)) H locs := hl_same (md_at_10 hd) h
  exact md_set_10 hd (hl_norm (w := fun p => nI (x p)) h (fun p hp => by rw [hx p hp]))
theorem md_nrm_11 {x : Nat → Nat} (hd : md_D L d) (h : hl_H g A H0 L (mf g d f0 n mm sm kn mk r3 r5 r7 r8 r10 r11 r12 r13 r14 r15 r16 r17 r18 r19 r20 r21 r22 r23) H locs) (hx : ∀ p, p < 24 → r11 p = x p) : hl_H g A H0 L (mf g d f0 n mm sm kn mk r3 r5 r7 r8 r10 x r12 r13 r14 r15 r16 r17 r18 r19 r20 r21 r22 r23) H locs := by
  have h : hl_H g A H0 L (va_up (mf g d f0 n mm sm kn mk r3 r5 r7 r8 r10 r11 r12 r13 r14 r15 r16 r17 r18 r19 r20 r21 r22 r23) (d 11) (hl_nat g 24 r11)) H locs := hl_same (md_at_11 hd) h
  exact md_set_11 hd (hl_norm (w := fun p => nI (x p)) h (fun p hp => by rw [hx p hp]))
theorem md_nrm_12 {x : Nat → Nat} (hd : md_D L d) (h : hl_H g A H0 L (mf g d f0 n mm sm kn mk r3 r5 r7 r8 r10 r11 r12 r13 r14 r15 r16 r17 r18 r19 r20 r21 r22 r23) H locs) (hx : ∀ p, p < 24 → r12 p = x p) : hl_H g A H0 L (mf g d f0 n mm sm kn mk r3 r5 r7 r8 r10 r11 x r13 r14 r15 r16 r17 r18 r19 r20 r21 r22 r23) H locs := by
  have h : hl_H g A H0 L (va_up (mf g d f0 n mm sm kn mk r3 r5 r7 r8 r10 r11 r12 r13 r14 r15 r16 r17 r18 r19 r20 r21 r22 r23) (d 12) (hl_nat g 24 r12)) H locs := hl_same (md_at_12 hd) h
  exact md_set_12 hd (hl_norm (w := fun p => nI (x p)) h (fun p hp => by rw [hx p hp]))
theorem md_nrm_13 {x : Nat → Nat} (hd : md_D L d) (h : hl_H g A H0 L (mf g d f0 n mm sm kn mk r3 r5 r7 r8 r10 r11 r12 r13 r14 r15 r16 r17 r18 r19 r20 r21 r22 r23) H locs) (hx : ∀ p, p < 576 → r13 p = x p) : hl_H g A H0 L (mf g d f0 n mm sm kn mk r3 r5 r7 r8 r10 r11 r12 x r14 r15 r16 r17 r18 r19 r20 r21 r22 r23) H locs := by
  have h : hl_H g A H0 L (va_up (mf g d f0 n mm sm kn mk r3 r5 r7 r8 r10 r11 r12 r13 r14 r15 r16 r17 r18 r19 r20 r21 r22 r23) (d 13) (hl_nat g 576 r13)) H locs := hl_same (md_at_13 hd) h
  exact md_set_13 hd (hl_norm (w := fun p => nI (x p)) h (fun p hp => by rw [hx p hp]))
theorem md_nrm_14 {x : Nat → Nat} (hd : md_D L d) (h : hl_H g A H0 L (mf g d f0 n mm sm kn mk r3 r5 r7 r8 r10 r11 r12 r13 r14 r15 r16 r17 r18 r19 r20 r21 r22 r23) H locs) (hx : ∀ p, p < 24 → r14 p = x p) : hl_H g A H0 L (mf g d f0 n mm sm kn mk r3 r5 r7 r8 r10 r11 r12 r13 x r15 r16 r17 r18 r19 r20 r21 r22 r23) H locs := by
  have h : hl_H g A H0 L (va_up (mf g d f0 n mm sm kn mk r3 r5 r7 r8 r10 r11 r12 r13 r14 r15 r16 r17 r18 r19 r20 r21 r22 r23) (d 14) (hl_zat g 24 r14)) H locs := hl_same (md_at_14 hd) h
  exact md_set_14 hd (hl_norm (w := fun p => nI (x p)) h (fun p hp => by rw [hx p hp]))
theorem md_nrm_15 {x : Nat → Nat} (hd : md_D L d) (h : hl_H g A H0 L (mf g d f0 n mm sm kn mk r3 r5 r7 r8 r10 r11 r12 r13 r14 r15 r16 r17 r18 r19 r20 r21 r22 r23) H locs) (hx : ∀ p, p < 24 → r15 p = x p) : hl_H g A H0 L (mf g d f0 n mm sm kn mk r3 r5 r7 r8 r10 r11 r12 r13 r14 x r16 r17 r18 r19 r20 r21 r22 r23) H locs := by
  have h : hl_H g A H0 L (va_up (mf g d f0 n mm sm kn mk r3 r5 r7 r8 r10 r11 r12 r13 r14 r15 r16 r17 r18 r19 r20 r21 r22 r23) (d 15) (hl_nat g 24 r15)) H locs := hl_same (md_at_15 hd) h
  exact md_set_15 hd (hl_norm (w := fun p => nI (x p)) h (fun p hp => by rw [hx p hp]))
theorem md_nrm_16 {x : Nat → Nat} (hd : md_D L d) (h : hl_H g A H0 L (mf g d f0 n mm sm kn mk r3 r5 r7 r8 r10 r11 r12 r13 r14 r15 r16 r17 r18 r19 r20 r21 r22 r23) H locs) (hx : ∀ p, p < 24 → r16 p = x p) : hl_H g A H0 L (mf g d f0 n mm sm kn mk r3 r5 r7 r8 r10 r11 r12 r13 r14 r15 x r17 r18 r19 r20 r21 r22 r23) H locs := by
  have h : hl_H g A H0 L (va_up (mf g d f0 n mm sm kn mk r3 r5 r7 r8 r10 r11 r12 r13 r14 r15 r16 r17 r18 r19 r20 r21 r22 r23) (d 16) (hl_byr g r16)) H locs := hl_same (md_at_16 hd) h
  exact md_set_16 hd (hl_norm (w := fun p => nI (x p) + (-1)) h (fun p hp => by rw [hx p hp]))
theorem md_nrm_17 {x : Nat → Nat} (hd : md_D L d) (h : hl_H g A H0 L (mf g d f0 n mm sm kn mk r3 r5 r7 r8 r10 r11 r12 r13 r14 r15 r16 r17 r18 r19 r20 r21 r22 r23) H locs) (hx : ∀ p, p < 24 → r17 p = x p) : hl_H g A H0 L (mf g d f0 n mm sm kn mk r3 r5 r7 r8 r10 r11 r12 r13 r14 r15 r16 x r18 r19 r20 r21 r22 r23) H locs := by
  have h : hl_H g A H0 L (va_up (mf g d f0 n mm sm kn mk r3 r5 r7 r8 r10 r11 r12 r13 r14 r15 r16 r17 r18 r19 r20 r21 r22 r23) (d 17) (hl_zat g 24 r17)) H locs := hl_same (md_at_17 hd) h
  exact md_set_17 hd (hl_norm (w := fun p => nI (x p)) h (fun p hp => by rw [hx p hp]))
theorem md_nrm_18 {x : Nat → Nat} (hd : md_D L d) (h : hl_H g A H0 L (mf g d f0 n mm sm kn mk r3 r5 r7 r8 r10 r11 r12 r13 r14 r15 r16 r17 r18 r19 r20 r21 r22 r23) H locs) (hx : ∀ p, p < 24 → r18 p = x p) : hl_H g A H0 L (mf g d f0 n mm sm kn mk r3 r5 r7 r8 r10 r11 r12 r13 r14 r15 r16 r17 x r19 r20 r21 r22 r23) H locs := by
  have h : hl_H g A H0 L (va_up (mf g d f0 n mm sm kn mk r3 r5 r7 r8 r10 r11 r12 r13 r14 r15 r16 r17 r18 r19 r20 r21 r22 r23) (d 18) (hl_nat g 24 r18)) H locs := hl_same (md_at_18 hd) h
  exact md_set_18 hd (hl_norm (w := fun p => nI (x p)) h (fun p hp => by rw [hx p hp]))
theorem md_nrm_19 {x : Nat → Nat} (hd : md_D L d) (h : hl_H g A H0 L (mf g d f0 n mm sm kn mk r3 r5 r7 r8 r10 r11 r12 r13 r14 r15 r16 r17 r18 r19 r20 r21 r22 r23) H locs) (hx : ∀ p, p < 24 → r19 p = x p) : hl_H g A H0 L (mf g d f0 n mm sm kn mk r3 r5 r7 r8 r10 r11 r12 r13 r14 r15 r16 r17 r18 x r20 r21 r22 r23) H locs := by
  have h : hl_H g A H0 L (va_up (mf g d f0 n mm sm kn mk r3 r5 r7 r8 r10 r11 r12 r13 r14 r15 r16 r17 r18 r19 r20 r21 r22 r23) (d 19) (hl_nat g 24 r19)) H locs := hl_same (md_at_19 hd) h
  exact md_set_19 hd (hl_norm (w := fun p => nI (x p)) h (fun p hp => by rw [hx p hp]))
theorem md_nrm_20 {x : Nat → Nat} (hd : md_D L d) (h : hl_H g A H0 L (mf g d f0 n mm sm kn mk r3 r5 r7 r8 r10 r11 r12 r13 r14 r15 r16 r17 r18 r19 r20 r21 r22 r23) H locs) (hx : ∀ p, p < 24 → r20 p = x p) : hl_H g A H0 L (mf g d f0 n mm sm kn mk r3 r5 r7 r8 r10 r11 r12 r13 r14 r15 r16 r17 r18 r19 x r21 r22 r23) H locs := by
  have h : hl_H g A H0 L (va_up (mf g d f0 n mm sm kn mk r3 r5 r7 r8 r10 r11 r12 r13 r14 r15 r16 r17 r18 r19 r20 r21 r22 r23) (d 20) (hl_nat g 24 r20)) H locs := hl_same (md_at_20 hd) h
  exact md_set_20 hd (hl_norm (w := fun p => nI (x p)) h (fun p hp => by rw [hx p hp]))
theorem md_nrm_21 {x : Nat → Nat} (hd : md_D L d) (h : hl_H g A H0 L (mf g d f0 n mm sm kn mk r3 r5 r7 r8 r10 r11 r12 r13 r14 r15 r16 r17 r18 r19 r20 r21 r22 r23) H locs) (hx : ∀ p, p < 40 → r21 p = x p) : hl_H g A H0 L (mf g d f0 n mm sm kn mk r3 r5 r7 r8 r10 r11 r12 r13 r14 r15 r16 r17 r18 r19 r20 x r22 r23) H locs := by
  have h : hl_H g A H0 L (va_up (mf g d f0 n mm sm kn mk r3 r5 r7 r8 r10 r11 r12 r13 r14 r15 r16 r17 r18 r19 r20 r21 r22 r23) (d 21) (hl_nat g 40 r21)) H locs := hl_same (md_at_21 hd) h
  exact md_set_21 hd (hl_norm (w := fun p => nI (x p)) h (fun p hp => by rw [hx p hp]))
theorem md_nrm_22 {x : Nat → Nat} (hd : md_D L d) (h : hl_H g A H0 L (mf g d f0 n mm sm kn mk r3 r5 r7 r8 r10 r11 r12 r13 r14 r15 r16 r17 r18 r19 r20 r21 r22 r23) H locs) (hx : ∀ p, p < 24 → r22 p = x p) : hl_H g A H0 L (mf g d f0 n mm sm kn mk r3 r5 r7 r8 r10 r11 r12 r13 r14 r15 r16 r17 r18 r19 r20 r21 x r23) H locs := by
  have h : hl_H g A H0 L (va_up (mf g d f0 n mm sm kn mk r3 r5 r7 r8 r10 r11 r12 r13 r14 r15 r16 r17 r18 r19 r20 r21 r22 r23) (d 22) (hl_nat g 24 r22)) H locs := hl_same (md_at_22 hd) h
  exact md_set_22 hd (hl_norm (w := fun p => nI (x p)) h (fun p hp => by rw [hx p hp]))
theorem md_nrm_23 {x : Nat → Nat} (hd : md_D L d) (h : hl_H g A H0 L (mf g d f0 n mm sm kn mk r3 r5 r7 r8 r10 r11 r12 r13 r14 r15 r16 r17 r18 r19 r20 r21 r22 r23) H locs) (hx : ∀ p, p < 576 → r23 p = x p) : hl_H g A H0 L (mf g d f0 n mm sm kn mk r3 r5 r7 r8 r10 r11 r12 r13 r14 r15 r16 r17 r18 r19 r20 r21 r22 x) H locs := by
  have h : hl_H g A H0 L (va_up (mf g d f0 n mm sm kn mk r3 r5 r7 r8 r10 r11 r12 r13 r14 r15 r16 r17 r18 r19 r20 r21 r22 r23) (d 23) (hl_nat g 576 r23)) H locs := hl_same (md_at_23 hd) h
  exact md_set_23 hd (hl_norm (w := fun p => nI (x p)) h (fun p hp => by rw [hx p hp]))
end
section
variable {p : Program} {l : Launch} {e : Env} {R : Room} {s : State} {m : MethodId} {args : Array Value} {below : List Frame} {meth : Method} {c : Code} {H : Heap} {locs : List Loc} {cells slots : Nat} {Q : State → Prop}
variable {cc : ByteArray} {pc nL : Nat} {ls : Array Slot} {rest st : List Value} {g : hl_G} {A : Nat → Prop} {H0 : Heap} {own : String} {L : List Nat} {f : Nat → va_E} {a : Nat}
theorem hl_zastN (X : CallFix p m c cc nL s args tg own) (hK : hl_K g s) (h : hl_H g A H0 L f H locs) {n i v : Nat} {z : Nat → Nat}
    (ha : a ∈ L) (hfa : f a = hl_zat g n z) (hi : i < n) (hn : n < 2 ^ 31) (hv : v = 0 ∨ v = 1) (hdg : decode cc pc = .ok (.bastore, 1))
    (kk : ∀ (H1 : Heap) (locs1 : List Loc), hl_H g A H0 L (va_up f a (hl_zat g n (va_up z i v))) H1 locs1 →
      W p l e R s m args below meth c H1 locs1 cells slots Q (F0 m (pc + 1) ls rest)) :
    W p l e R s m args below meth c H locs cells slots Q (F0 m pc ls (.int (nI v) :: .int (nI i) :: .ref a :: rest)) := by
  refine hl_zast X hK h ha hfa hi hn (by rcases hv with rfl | rfl; exact Or.inl rfl; exact Or.inr rfl) hdg (fun H1 locs1 h1 => ?_)
  rw [hr_up] at h1
  exact kk H1 locs1 h1
theorem hl_bastM (X : CallFix p m c cc nL s args tg own) (hK : hl_K g s) (h : hl_H g A H0 L f H locs) {i : Nat} {z : Nat → Nat}
    (ha : a ∈ L) (hfa : f a = hl_byr g z) (hi : i < 24) (hdg : decode cc pc = .ok (.iastore, 1))
    (kk : ∀ (H1 : Heap) (locs1 : List Loc), hl_H g A H0 L (va_up f a (hl_byr g (va_up z i 0))) H1 locs1 →
      W p l e R s m args below meth c H1 locs1 cells slots Q (F0 m (pc + 1) ls rest)) :
    W p l e R s m args below meth c H locs cells slots Q (F0 m pc ls (.int (-1) :: .int (nI i) :: .ref a :: rest)) := by
  refine hl_iast X hK h ha hfa hi (by decide) hdg (fun H1 locs1 h1 => ?_)
  refine kk H1 locs1 (hl_norm (w := fun p => nI (va_up z i 0 p) + (-1)) h1 (fun p hp => ?_))
  by_cases e0 : p = i
  · rw [e0, va_up_self, va_up_self]; decide
  · rw [va_up_ne _ _ e0, va_up_ne _ _ e0]
theorem hl_bastE (X : CallFix p m c cc nL s args tg own) (hK : hl_K g s) (h : hl_H g A H0 L f H locs) {i v : Nat} {z : Nat → Nat}
    (ha : a ∈ L) (hfa : f a = hl_byr g z) (hi : i < 24) (hdg : decode cc pc = .ok (.iastore, 1))
    (kk : ∀ (H1 : Heap) (locs1 : List Loc), hl_H g A H0 L (va_up f a (hl_byr g (va_up z i (v + 1)))) H1 locs1 →
      W p l e R s m args below meth c H1 locs1 cells slots Q (F0 m (pc + 1) ls rest)) :
    W p l e R s m args below meth c H locs cells slots Q (F0 m pc ls (.int (nI v) :: .int (nI i) :: .ref a :: rest)) := by
  refine hl_iast X hK h ha hfa hi (by decide) hdg (fun H1 locs1 h1 => ?_)
  refine kk H1 locs1 (hl_norm (w := fun p => nI (va_up z i (v + 1) p) + (-1)) h1 (fun p hp => ?_))
  by_cases e0 : p = i
  · rw [e0, va_up_self, va_up_self]; exact (hn_dec v).symm
  · rw [va_up_ne _ _ e0, va_up_ne _ _ e0]
/-- a number or -1, read -/
theorem hl_bald (X : CallFix p m c cc nL s args tg own) (hK : hl_K g s) (h : hl_H g A H0 L f H locs) {i v : Nat} {z : Nat → Nat}
    (ha : a ∈ L) (hfa : f a = hl_byr g z) (hi : i < 24) (hz : z i = v + 1) (hdg : decode cc pc = .ok (.iaload, 1))
    (kk : W p l e R s m args below meth c H locs cells slots Q (F0 m (pc + 1) ls (.int (nI v) :: rest))) :
    W p l e R s m args below meth c H locs cells slots Q (F0 m pc ls (.int (nI i) :: .ref a :: rest)) := by
  refine hl_iald X hK h ha hfa hi (by decide) hdg ?_
  have e0 : nI (z i) + (-1) = nI v := by rw [hz]; exact hn_dec v
  rw [e0]
  exact kk
theorem hl_baldM (X : CallFix p m c cc nL s args tg own) (hK : hl_K g s) (h : hl_H g A H0 L f H locs) {i : Nat} {z : Nat → Nat}
    (ha : a ∈ L) (hfa : f a = hl_byr g z) (hi : i < 24) (hz : z i = 0) (hdg : decode cc pc = .ok (.iaload, 1))
    (kk : W p l e R s m args below meth c H locs cells slots Q (F0 m (pc + 1) ls (.int (-1) :: rest))) :
    W p l e R s m args below meth c H locs cells slots Q (F0 m pc ls (.int (nI i) :: .ref a :: rest)) := by
  refine hl_iald X hK h ha hfa hi (by decide) hdg ?_
  have e0 : nI (z i) + (-1) = (-1 : Int32) := by rw [hz]; decide
  rw [e0]
  exact kk
end
end
