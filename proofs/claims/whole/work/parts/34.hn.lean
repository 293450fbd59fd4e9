/-! The layer: whole numbers that aren't negative, as Nat. -/
section
variable {p : Program} {l : Launch} {e : Env} {R : Room} {s : State} {m : MethodId} {args : Array Value} {below : List Frame} {meth : Method} {c : Code} {H : Heap} {locs : List Loc} {cells slots : Nat} {Q : State → Prop}
variable {cc : ByteArray} {pc nL : Nat} {ls : Array Slot} {rest : List Value} {own : String} {x y : Nat}

theorem hn_add (X : CallFix p m c cc nL s args tg own) (hdg : decode cc pc = .ok (.iadd, 1))
    (k : W p l e R s m args below meth c H locs cells slots Q (F0 m (pc + 1) ls (.int (nI (x + y)) :: rest))) : W p l e R s m args below meth c H locs cells slots Q (F0 m pc ls (.int (nI y) :: .int (nI x) :: rest)) :=
  lv_iadd X.1 X.2.1 hdg (by rw [nI_add]; exact k)
theorem hn_sub (X : CallFix p m c cc nL s args tg own) (h : y ≤ x) (hdg : decode cc pc = .ok (.isub, 1))
    (k : W p l e R s m args below meth c H locs cells slots Q (F0 m (pc + 1) ls (.int (nI (x - y)) :: rest))) : W p l e R s m args below meth c H locs cells slots Q (F0 m pc ls (.int (nI y) :: .int (nI x) :: rest)) :=
  lv_isub X.1 X.2.1 hdg (by rw [pk_sub h]; exact k)
theorem hn_mul (X : CallFix p m c cc nL s args tg own) (hdg : decode cc pc = .ok (.imul, 1))
    (k : W p l e R s m args below meth c H locs cells slots Q (F0 m (pc + 1) ls (.int (nI (x * y)) :: rest))) : W p l e R s m args below meth c H locs cells slots Q (F0 m pc ls (.int (nI y) :: .int (nI x) :: rest)) :=
  lv_imul X.1 X.2.1 hdg (by rw [pk_mul]; exact k)
theorem hn_div (X : CallFix p m c cc nL s args tg own) (hx : x < 2 ^ 31) (h0 : 0 < y) (hy : y < 2 ^ 31) (hdg : decode cc pc = .ok (.idiv, 1))
    (k : W p l e R s m args below meth c H locs cells slots Q (F0 m (pc + 1) ls (.int (nI (x / y)) :: rest))) : W p l e R s m args below meth c H locs cells slots Q (F0 m pc ls (.int (nI y) :: .int (nI x) :: rest)) :=
  lv_idiv X.1 X.2.1 hdg (nI_ne0 h0 hy) (by rw [pk_div hx h0 hy]; exact k)
theorem hn_rem (X : CallFix p m c cc nL s args tg own) (hx : x < 2 ^ 31) (h0 : 0 < y) (hy : y < 2 ^ 31) (hdg : decode cc pc = .ok (.irem, 1))
    (k : W p l e R s m args below meth c H locs cells slots Q (F0 m (pc + 1) ls (.int (nI (x % y)) :: rest))) : W p l e R s m args below meth c H locs cells slots Q (F0 m pc ls (.int (nI y) :: .int (nI x) :: rest)) :=
  lv_irem X.1 X.2.1 hdg (nI_ne0 h0 hy) (by rw [pk_rem hx h0 hy]; exact k)

theorem hn_ieq {off : Int} {tgt : Nat} (X : CallFix p m c cc nL s args tg own) (hx : x < 2 ^ 31) (hy : y < 2 ^ 31) (hdg : decode cc pc = .ok (.if_icmp .eq off, 3)) (ht : (pc : Int) + off = (tgt : Int))
    (kt : x = y → W p l e R s m args below meth c H locs cells slots Q (F0 m tgt ls rest)) (kf : ¬ x = y → W p l e R s m args below meth c H locs cells slots Q (F0 m (pc + 3) ls rest)) : W p l e R s m args below meth c H locs cells slots Q (F0 m pc ls (.int (nI y) :: .int (nI x) :: rest)) :=
  lv_icmp_eq X.1 X.2.1 hdg ht (fun h => kt ((nI_eq hx hy).1 h)) (fun h => kf (fun e => h ((nI_eq hx hy).2 e)))
theorem hn_ine {off : Int} {tgt : Nat} (X : CallFix p m c cc nL s args tg own) (hx : x < 2 ^ 31) (hy : y < 2 ^ 31) (hdg : decode cc pc = .ok (.if_icmp .ne off, 3)) (ht : (pc : Int) + off = (tgt : Int))
    (kt : ¬ x = y → W p l e R s m args below meth c H locs cells slots Q (F0 m tgt ls rest)) (kf : x = y → W p l e R s m args below meth c H locs cells slots Q (F0 m (pc + 3) ls rest)) : W p l e R s m args below meth c H locs cells slots Q (F0 m pc ls (.int (nI y) :: .int (nI x) :: rest)) :=
  lv_icmp_ne X.1 X.2.1 hdg ht (fun h => kt (fun e => h ((nI_eq hx hy).2 e))) (fun h => kf ((nI_eq hx hy).1 h))
theorem hn_ilt {off : Int} {tgt : Nat} (X : CallFix p m c cc nL s args tg own) (hx : x < 2 ^ 31) (hy : y < 2 ^ 31) (hdg : decode cc pc = .ok (.if_icmp .lt off, 3)) (ht : (pc : Int) + off = (tgt : Int))
    (kt : x < y → W p l e R s m args below meth c H locs cells slots Q (F0 m tgt ls rest)) (kf : y ≤ x → W p l e R s m args below meth c H locs cells slots Q (F0 m (pc + 3) ls rest)) : W p l e R s m args below meth c H locs cells slots Q (F0 m pc ls (.int (nI y) :: .int (nI x) :: rest)) :=
  lv_icmp_lt X.1 X.2.1 hdg ht (fun h => kt ((nI_ltI hx hy).1 h)) (fun h => kf (Nat.not_lt.1 fun e => h ((nI_ltI hx hy).2 e)))
theorem hn_ige {off : Int} {tgt : Nat} (X : CallFix p m c cc nL s args tg own) (hx : x < 2 ^ 31) (hy : y < 2 ^ 31) (hdg : decode cc pc = .ok (.if_icmp .ge off, 3)) (ht : (pc : Int) + off = (tgt : Int))
    (kt : y ≤ x → W p l e R s m args below meth c H locs cells slots Q (F0 m tgt ls rest)) (kf : x < y → W p l e R s m args below meth c H locs cells slots Q (F0 m (pc + 3) ls rest)) : W p l e R s m args below meth c H locs cells slots Q (F0 m pc ls (.int (nI y) :: .int (nI x) :: rest)) :=
  lv_icmp_ge X.1 X.2.1 hdg ht (fun h => kt ((nI_leI hy hx).1 h)) (fun h => kf (Nat.not_le.1 fun e => h ((nI_leI hy hx).2 e)))
theorem hn_igt {off : Int} {tgt : Nat} (X : CallFix p m c cc nL s args tg own) (hx : x < 2 ^ 31) (hy : y < 2 ^ 31) (hdg : decode cc pc = .ok (.if_icmp .gt off, 3)) (ht : (pc : Int) + off = (tgt : Int))
    (kt : y < x → W p l e R s m args below meth c H locs cells slots Q (F0 m tgt ls rest)) (kf : x ≤ y → W p l e R s m args below meth c H locs cells slots Q (F0 m (pc + 3) ls rest)) : W p l e R s m args below meth c H locs cells slots Q (F0 m pc ls (.int (nI y) :: .int (nI x) :: rest)) :=
  lv_icmp_gt X.1 X.2.1 hdg ht (fun h => kt ((nI_ltI hy hx).1 h)) (fun h => kf (Nat.not_lt.1 fun e => h ((nI_ltI hy hx).2 e)))
theorem hn_ile {off : Int} {tgt : Nat} (X : CallFix p m c cc nL s args tg own) (hx : x < 2 ^ 31) (hy : y < 2 ^ 31) (hdg : decode cc pc = .ok (.if_icmp .le off, 3)) (ht : (pc : Int) + off = (tgt : Int))
    (kt : x ≤ y → W p l e R s m args below meth c H locs cells slots Q (F0 m tgt ls rest)) (kf : y < x → W p l e R s m args below meth c H locs cells slots Q (F0 m (pc + 3) ls rest)) : W p l e R s m args below meth c H locs cells slots Q (F0 m pc ls (.int (nI y) :: .int (nI x) :: rest)) :=
  lv_icmp_le X.1 X.2.1 hdg ht (fun h => kt ((nI_leI hx hy).1 h)) (fun h => kf (Nat.not_le.1 fun e => h ((nI_leI hx hy).2 e)))
end
