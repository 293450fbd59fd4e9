/-! A layer over the kit: the heap as ONE pool, a list of addresses and what each holds; methods by contract over it. -/
section

/-- the classes' numbers, and the numbers of int[], boolean[], int[][], Link[] -/
abbrev hl_G : Type := va_G × (ClassId × ClassId × ClassId × ClassId)
abbrev hl_ty (g : hl_G) : List (ClassId × FieldType) := [(g.2.1, .int), (g.2.2.1, .boolean), (g.2.2.2.1, .array .int), (g.2.2.2.2, .object R_K)]

def hl_AOA (U : State) : Prop := (Cond.arrayOver (.array .int)).before #[] U = true
theorem hl_AOA.moved {u U : State} (hvm : u.vm.Alike U.vm) (h : hl_AOA u) : hl_AOA U := by
  obtain ⟨comp, c, k, h1, h2, h3, h4, h5⟩ := arrayOverA_spec h
  obtain ⟨k', hk', he⟩ := hvm.2.2 _ _ h3
  have hi : (U.vm.classes.findIdx? fun (x : Class) => match x.kind with | .array component _ => component == comp | _ => false) = some c := by
    refine Eq.trans (va_idx_bare U.vm comp).symm ?_
    first | rw [hvm.bare_eq] | rw [← hvm.bare_eq]
    exact Eq.trans (va_idx_bare _ comp) h2
  have hkind : k'.kind = .array comp (.array .int) := by rw [he]; exact h4
  have f1 : U.vm.findClass (FieldType.array .int).toString = some comp := by rw [hvm.findClass]; exact h1
  have f2 : U.vm.findClass ("[" ++ (FieldType.array .int).toString) = some c := by rw [hvm.findClass]; exact h5
  unfold hl_AOA Cond.before Cond.holds
  simp only [Cond.value]
  rw [f1, Option.bind_some]
  refine (congrArg (fun o : Option Nat => (o.bind (fun c => (U.vm.classes[c]?).map fun (k : Class) => match k.kind with | .array _ ty => decide (ty = FieldType.array .int) && decide (U.vm.findClass ("[" ++ (FieldType.array .int).toString) = some c) | _ => false) == some true)) hi).trans ?_
  simp [hk', hkind, f2]

abbrev hl_nK : Cond := .methodLinkNest "CycleGroups$Link" 37 y_C_leaveAll "CycleGroups"
abbrev hl_nP : Cond := .methodLinkNest "CycleGroups$Partition" 13 y_C_leaveAll "CycleGroups"

/-- what is known of the tables at every moment -/
def hl_K (g : hl_G) (U : State) : Prop :=
  va_K g.1 classes (hl_ty g) U ∧ va_AO R_K U ∧ hl_AOA U ∧ va_Nw hl_nK U ∧ va_Nw hl_nP U

theorem hl_K.warm {g : hl_G} {s U : State} (hW : s.WarmedH U.vm) (h : hl_K g s) : hl_K g U :=
  ⟨va_K.moved hW.alike h.1, va_AO.moved hW.alike h.2.1, hl_AOA.moved hW.alike h.2.2.1, va_Nw.warmM hW h.2.2.2.1, va_Nw.warmM hW h.2.2.2.2⟩

theorem hl_K.same {g : hl_G} {s U : State} (h0 : s.vm = U.vm) (h : hl_K g s) : hl_K g U := by
  have ha : s.vm.Alike U.vm := by rw [← h0]; exact Vm.Alike.refl s.vm
  exact ⟨va_K.moved ha h.1, va_AO.moved ha h.2.1, hl_AOA.moved ha h.2.2.1, va_Nw.same rfl h0 h.2.2.2.1, va_Nw.same rfl h0 h.2.2.2.2⟩

/-- the heap as one pool: L its addresses, f what each holds; A what may change since H0 -/
def hl_H (g : hl_G) (A : Nat → Prop) (H0 : Heap) (L : List Nat) (f : Nat → va_E) (H : Heap) (locs : List Loc) : Prop :=
  va_P g.1 classes (va_pl L f) H ∧ va_D A (va_pl L f) ∧ va_S A H0 H locs ∧ ∀ q, H0.size ≤ q → A q

/-- a method's words: its own code, and the tables -/
def hq (y : MethodName) (b : ByteArray) (n : Nat) (r : Option FieldType) : List Cond := Cond.code y b n r :: tg

theorem hq_good {y : MethodName} {b : ByteArray} {n : Nat} {r : Option FieldType} (h : Cond.code y b n r ∈ tg) : GoodIn tg (hq y b n r) := by
  intro w hw
  rcases List.mem_cons.1 hw with rfl | hw
  · exact ⟨h, tg_good _ h⟩
  · exact ⟨hw, tg_good _ hw⟩

abbrev hm_A (sz : Nat) (L : List Nat) : Nat → Prop := fun q => q ∈ L ∨ sz ≤ q

/-- a contract's start: the arguments, the pool -/
def hm_P (g : hl_G) (av : List Value) (sz : Nat) (L : List Nat) (f : Nat → va_E) : Array Value → State → Prop :=
  va_Pc av (fun U => U.heap.size = sz ∧ va_P g.1 classes (va_pl L f) U.heap ∧ hl_K g U ∧ va_D (fun _ => True) (va_pl L f))

/-- its end: the pool then -/
def hm_B (g : hl_G) (sz : Nat) (L : List Nat) : List Nat × (Nat → va_E) → State → Prop :=
  fun u t => va_P g.1 classes (va_pl u.1 u.2) t.heap ∧ va_D (hm_A sz L) (va_pl u.1 u.2)

theorem hl_mem {L : List Nat} {f : Nat → va_E} {k : Nat} {q : Nat × va_E} (h : (va_pl L f)[k]? = some q) : q.1 ∈ L := by
  have := List.mem_of_getElem? h
  obtain ⟨a, ha, rfl⟩ := List.mem_map.1 this
  exact ha

theorem hl_at {L : List Nat} {f : Nat → va_E} {a : Nat} {x : va_E} (h : a ∈ L) (hf : f a = x) : ∃ k : Nat, (va_pl L f)[k]? = some (a, x) := by
  obtain ⟨k, hk⟩ := va_pl_get (X := []) (f := f) h
  rw [hf] at hk
  exact ⟨k, hk⟩

theorem hl_set {A : Nat → Prop} {L : List Nat} {f : Nat → va_E} {a k : Nat} {x e : va_E} (hD : va_D A (va_pl L f)) (h : a ∈ L) (hf : f a = x)
    (hk : (va_pl L f)[k]? = some (a, x)) : (va_pl L f).set k (a, e) = va_pl L (va_up f a e) := by
  subst hf
  exact va_pl_set (X := []) hD h hk

section
variable {p : Program} {l : Launch} {e : Env} {R : Room} {s : State} {m : MethodId} {args : Array Value} {below : List Frame} {meth : Method} {c : Code} {H : Heap} {locs : List Loc} {cells slots : Nat} {Q : State → Prop}
variable {cc : ByteArray} {pc nL : Nat} {ls : Array Slot} {rest : List Value} {g : hl_G} {A : Nat → Prop} {a : Nat} {H0 : Heap} {own : String} {L : List Nat} {f : Nat → va_E}

theorem hl_get (X : CallFix p m c cc nL s args tg own) (hK : hl_K g s) (h : hl_H g A H0 L f H locs) {ref C0 : String} {T : u_T} {N ci index : Nat}
    (hin : ∀ w ∈ u_ws C0 T N, w ∈ tg) (hc : classes[ci]? = some (C0, T, N)) (k : Nat) (hk : k < N)
    (hlink : Cond.fieldLink own index ref (T k).2.1 (T k).2.2.1 ∈ tg) (hsame : (T k).1 = ref) {fs : List Value} {v : Value}
    (ha : a ∈ L) (hfa : f a = .inr (ci, fs)) (hv : fs[k]? = some v) (hdg : decode cc pc = .ok (.getfield index, 3))
    (kk : W p l e R s m args below meth c H locs cells slots Q (F0 m (pc + 3) ls (v :: rest))) :
    W p l e R s m args below meth c H locs cells slots Q (F0 m pc ls (.ref a :: rest)) := by
  obtain ⟨j, hj⟩ := hl_at ha hfa
  exact va_get X.1 X.2.1 X.2.2.2.2 hin X.2.2.2.1 hK.1 h.1 j hj hc k hk (X.2.2.2.2 _ hlink) (fun x hx => by rw [← hsame]; exact hx) hv hdg kk

theorem hl_put (X : CallFix p m c cc nL s args tg own) (hK : hl_K g s) (h : hl_H g A H0 L f H locs) {ref C0 : String} {T : u_T} {N ci index : Nat}
    (hin : ∀ w ∈ u_ws C0 T N, w ∈ tg) (ty0 : Nat → FieldType) (hty : ∀ k, k < N → parseFieldDescriptor (T k).2.2.1 = some (ty0 k))
    (hnm : ∀ a, a < N → ∀ b, b < N → a ≠ b → (T a).2.1 ≠ (T b).2.1) (hc : classes[ci]? = some (C0, T, N)) (k : Nat) (hk : k < N)
    (hlink : Cond.fieldLink own index ref (T k).2.1 (T k).2.2.1 ∈ tg) (hsame : (T k).1 = ref) (hfin : (T k).2.2.2 = false) {fs : List Value} {v : Value}
    (ha : a ∈ L) (hfa : f a = .inr (ci, fs)) (hn : narrow (ty0 k) v = v) (hfit : fits (ty0 k) v = true) (hl : k < fs.length)
    (hdg : decode cc pc = .ok (.putfield index, 3))
    (kk : ∀ (H1 : Heap) (locs1 : List Loc), hl_H g A H0 L (va_up f a (.inr (ci, fs.set k v))) H1 locs1 →
      W p l e R s m args below meth c H1 locs1 cells slots Q (F0 m (pc + 3) ls rest)) :
    W p l e R s m args below meth c H locs cells slots Q (F0 m pc ls (v :: .ref a :: rest)) := by
  obtain ⟨j, hj⟩ := hl_at ha hfa
  obtain ⟨hP, hD, hS, hA⟩ := h
  refine va_put X.1 X.2.1 X.2.2.2.2 hin ty0 hty hnm X.2.2.2.1 hK.1 hP hD hS j hj hc k hk (X.2.2.2.2 _ hlink) (fun x hx => by rw [← hsame]; exact hx) hfin (hty k hk) hn hfit hl hdg (fun H1 locs1 hP1 hD1 hS1 => ?_)
  rw [hl_set hD ha hfa hj] at hP1 hD1
  exact kk H1 locs1 ⟨hP1, hD1, hS1, hA⟩

theorem hl_putF (X : CallFix p m c cc nL s args tg own) (hK : hl_K g s) (h : hl_H g A H0 L f H locs) (hin2 : meth.name = "<init>") {ref C0 : String} {T : u_T} {N ci index : Nat}
    (hin : ∀ w ∈ u_ws C0 T N, w ∈ tg) (ty0 : Nat → FieldType) (hty : ∀ k, k < N → parseFieldDescriptor (T k).2.2.1 = some (ty0 k))
    (hnm : ∀ a, a < N → ∀ b, b < N → a ≠ b → (T a).2.1 ≠ (T b).2.1) (hc : classes[ci]? = some (C0, T, N)) (k : Nat) (hk : k < N)
    (hlink : Cond.fieldLink own index ref (T k).2.1 (T k).2.2.1 ∈ tg) (hsame : (T k).1 = ref) (hfin : (T k).2.2.2 = true) (hdecl : (T k).1 = own) {fs : List Value} {v : Value}
    (ha : a ∈ L) (hfa : f a = .inr (ci, fs)) (hn : narrow (ty0 k) v = v) (hfit : fits (ty0 k) v = true) (hl : k < fs.length)
    (hdg : decode cc pc = .ok (.putfield index, 3))
    (kk : ∀ (H1 : Heap) (locs1 : List Loc), hl_H g A H0 L (va_up f a (.inr (ci, fs.set k v))) H1 locs1 →
      W p l e R s m args below meth c H1 locs1 cells slots Q (F0 m (pc + 3) ls rest)) :
    W p l e R s m args below meth c H locs cells slots Q (F0 m pc ls (v :: .ref a :: rest)) := by
  obtain ⟨j, hj⟩ := hl_at ha hfa
  obtain ⟨hP, hD, hS, hA⟩ := h
  refine va_putF X.1 X.2.1 X.2.2.2.2 hin ty0 hty hnm X.2.2.2.1 hK.1 hP hD hS j hj hc k hk (X.2.2.2.2 _ hlink) (fun x hx => by rw [← hsame]; exact hx) hfin hin2 hdecl (hty k hk) hn hfit hl hdg (fun H1 locs1 hP1 hD1 hS1 => ?_)
  rw [hl_set hD ha hfa hj] at hP1 hD1
  exact kk H1 locs1 ⟨hP1, hD1, hS1, hA⟩

/-- int rows -/
abbrev hl_row (g : hl_G) (n : Nat) (z : Nat → Int32) : va_E := .inl (g.2.1, n, .inl z)
/-- boolean rows -/
abbrev hl_zow (g : hl_G) (n : Nat) (z : Nat → Int32) : va_E := .inl (g.2.2.1, n, .inl z)
/-- rows of int rows -/
abbrev hl_grd (g : hl_G) (n : Nat) (z : Nat → Option Nat) : va_E := .inl (g.2.2.2.1, n, .inr (.inr (.inr (.inr z))))
/-- rows of links -/
abbrev hl_lks (g : hl_G) (n : Nat) (z : Nat → Option Nat) : va_E := .inl (g.2.2.2.2, n, .inr (.inr (.inr (.inr z))))

theorem hl_iald (X : CallFix p m c cc nL s args tg own) (hK : hl_K g s) (h : hl_H g A H0 L f H locs) {n i : Nat} {z : Nat → Int32}
    (ha : a ∈ L) (hfa : f a = hl_row g n z) (hi : i < n) (hn : n < 2 ^ 31) (hdg : decode cc pc = .ok (.iaload, 1))
    (kk : W p l e R s m args below meth c H locs cells slots Q (F0 m (pc + 1) ls (.int (z i) :: rest))) :
    W p l e R s m args below meth c H locs cells slots Q (F0 m pc ls (.int (nI i) :: .ref a :: rest)) := by
  obtain ⟨j, hj⟩ := hl_at ha hfa
  refine va_iald X.1 X.2.1 hK.1 h.1 j 0 hj rfl (vp_in_nI hi hn) hdg ?_
  rw [nI_clamp (by omega)]
  exact kk

theorem hl_iast (X : CallFix p m c cc nL s args tg own) (hK : hl_K g s) (h : hl_H g A H0 L f H locs) {n i : Nat} {z : Nat → Int32} {x : Int32}
    (ha : a ∈ L) (hfa : f a = hl_row g n z) (hi : i < n) (hn : n < 2 ^ 31) (hdg : decode cc pc = .ok (.iastore, 1))
    (kk : ∀ (H1 : Heap) (locs1 : List Loc), hl_H g A H0 L (va_up f a (hl_row g n (va_up z i x))) H1 locs1 →
      W p l e R s m args below meth c H1 locs1 cells slots Q (F0 m (pc + 1) ls rest)) :
    W p l e R s m args below meth c H locs cells slots Q (F0 m pc ls (.int x :: .int (nI i) :: .ref a :: rest)) := by
  obtain ⟨j, hj⟩ := hl_at ha hfa
  obtain ⟨hP, hD, hS, hA⟩ := h
  refine va_iast X.1 X.2.1 hK.1 hP hD hS j 0 hj rfl (vp_in_nI hi hn) hdg (fun H1 locs1 hP1 hD1 hS1 => ?_)
  rw [hl_set hD ha hfa hj, nI_clamp (by omega)] at hP1 hD1
  exact kk H1 locs1 ⟨hP1, hD1, hS1, hA⟩

theorem hl_alenI (X : CallFix p m c cc nL s args tg own) (hK : hl_K g s) (h : hl_H g A H0 L f H locs) {n : Nat} {z : Nat → Int32}
    (ha : a ∈ L) (hfa : f a = hl_row g n z) (hdg : decode cc pc = .ok (.arraylength, 1))
    (kk : W p l e R s m args below meth c H locs cells slots Q (F0 m (pc + 1) ls (.int (nI n) :: rest))) :
    W p l e R s m args below meth c H locs cells slots Q (F0 m pc ls (.ref a :: rest)) := by
  obtain ⟨j, hj⟩ := hl_at ha hfa
  exact va_alen X.1 X.2.1 hK.1 h.1 j 0 hj rfl rfl hdg kk

theorem hl_alenG (X : CallFix p m c cc nL s args tg own) (hK : hl_K g s) (h : hl_H g A H0 L f H locs) {n : Nat} {z : Nat → Option Nat}
    (ha : a ∈ L) (hfa : f a = hl_grd g n z) (hdg : decode cc pc = .ok (.arraylength, 1))
    (kk : W p l e R s m args below meth c H locs cells slots Q (F0 m (pc + 1) ls (.int (nI n) :: rest))) :
    W p l e R s m args below meth c H locs cells slots Q (F0 m pc ls (.ref a :: rest)) := by
  obtain ⟨j, hj⟩ := hl_at ha hfa
  exact va_alen X.1 X.2.1 hK.1 h.1 j 2 hj rfl rfl hdg kk

theorem hl_aaldG (X : CallFix p m c cc nL s args tg own) (hK : hl_K g s) (h : hl_H g A H0 L f H locs) {n i q : Nat} {z : Nat → Option Nat}
    (ha : a ∈ L) (hfa : f a = hl_grd g n z) (hi : i < n) (hn : n < 2 ^ 31) (hq : z i = some q) (hdg : decode cc pc = .ok (.aaload, 1))
    (kk : W p l e R s m args below meth c H locs cells slots Q (F0 m (pc + 1) ls (.ref q :: rest))) :
    W p l e R s m args below meth c H locs cells slots Q (F0 m pc ls (.int (nI i) :: .ref a :: rest)) := by
  obtain ⟨j, hj⟩ := hl_at ha hfa
  have hlt : (nI i).toNatClampNeg < n := by rw [nI_clamp (by omega)]; exact hi
  refine W.aald (v := .ref q) (ty := .array .int) X.1 X.2.1 (h.1 j _ hj) ((hK.1.2 2 _ rfl).1 n (fun j => va_rf (z j))) rfl (fun q => by cases q) (by show ¬ (nI i < 0 ∨ (arrV _ _ _).slots.size ≤ _); rw [arrV_size]; exact vp_in_nI hi hn) (by show (arrV _ _ _).slots[_]? = _; rw [arrV_read _ _ hlt, nI_clamp (by omega), hq]; rfl) rfl rfl hdg kk

theorem hl_aaldL (X : CallFix p m c cc nL s args tg own) (hK : hl_K g s) (h : hl_H g A H0 L f H locs) {n i q : Nat} {z : Nat → Option Nat}
    (ha : a ∈ L) (hfa : f a = hl_lks g n z) (hi : i < n) (hn : n < 2 ^ 31) (hq : z i = some q) (hdg : decode cc pc = .ok (.aaload, 1))
    (kk : W p l e R s m args below meth c H locs cells slots Q (F0 m (pc + 1) ls (.ref q :: rest))) :
    W p l e R s m args below meth c H locs cells slots Q (F0 m pc ls (.int (nI i) :: .ref a :: rest)) := by
  obtain ⟨j, hj⟩ := hl_at ha hfa
  refine va_aldq X.1 X.2.1 hK.1 h.1 j 3 hj rfl (vp_in_nI hi hn) hdg ?_
  rw [nI_clamp (by omega), hq]
  exact kk

end

end
