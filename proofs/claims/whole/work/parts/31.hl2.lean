/-! The layer: a method's start and end, calls, new cells, boolean rows, copies. -/
section

theorem hl_push {A : Nat → Prop} {L : List Nat} {f : Nat → va_E} {q : Nat} {x : va_E} (hD : va_D A (va_pl L f ++ [(q, x)])) :
    q ∉ L ∧ va_pl L f ++ [(q, x)] = va_pl (L ++ [q]) (va_up f q x) := by
  have hq : q ∉ L := by
    intro h
    obtain ⟨k, hk⟩ := hl_at (f := f) h rfl
    have hlt : k < (va_pl L f).length := (List.getElem?_eq_some_iff.1 hk).1
    have h1 : (va_pl L f ++ [(q, x)])[k]? = some (q, f q) := by rw [List.getElem?_append_left hlt]; exact hk
    have h2 : (va_pl L f ++ [(q, x)])[(va_pl L f).length]? = some (q, x) := by
      rw [List.getElem?_append_right (Nat.le_refl _), Nat.sub_self]; rfl
    have := hD.1 k (va_pl L f).length _ _ h1 h2 rfl
    omega
  exact ⟨hq, va_pl_push hq⟩

theorem hl_blind {g : hl_G} {av : List Value} {sz : Nat} {L : List Nat} {f : Nat → va_E} : FrameBlind (hm_P g av sz L f) :=
  fun a U g' mk q => by
    obtain ⟨q0, q1, qP, qK, qD⟩ := q
    exact ⟨q0, q1, qP, hl_K.same rfl qK, qD⟩

theorem hm_ofW {l : Launch} {g : hl_G} {y : MethodName} {b : ByteArray} {n : Nat} {r : Option FieldType} {rm : Room} {av : List Value} {sz : Nat} {L : List Nat}
    {f : Nat → va_E} {Qc : Array Value → State → Outcome → State → Prop} {mc ms : Nat} {free : Addr → Prop} (hy : plainName y.cls = true) (hlen : (lg_sl av).length ≤ n)
    (body : ∀ (p : Program) (e : Env) (s : State) (m : MethodId) (below : List Frame) (meth : Method) (c : Code), CallFix p m c b n s av.toArray tg y.cls →
      meth.sig.returnType = r → meth.locks = false → meth.name = y.name → hl_K g s → s.heap.size = sz → hl_H g (hm_A sz L) s.heap L f s.heap [] →
      ∀ ls, lv_has ls n (lv_args 0 av) → W p l e rm s m av.toArray below meth c s.heap [] 0 0 (MQ below Qc av.toArray s mc ms free) (F0 m 0 ls [])) :
    Met l y (hq y b n r) rm (hm_P g av sz L f) Qc mc ms free := by
  refine Met.ofW (cc := b) (maxL := n) (ret := r) hy rfl ?_
  intro p e s m args below meth c s₁ B hml hv
  obtain ⟨rfl, hsz, hP, hK, hD0⟩ := hv
  have hts := atoms_spec (ws := hq y b n r) B.pre
  have hX : CallFix p m c b n s av.toArray tg y.cls := ⟨B.exec, B.bytes, hml, findClass_of_methodNamed B.named, fun w hw => hts w (List.mem_cons_of_mem _ hw)⟩
  rw [lg_entry_eq]
  exact body p e s m below meth c hX B.returns B.notSynchronized (name_of_methodNamed B.named B.method).1 hK hsz
    ⟨hP, ⟨hD0.1, fun k q hk => Or.inl (hl_mem hk)⟩, va_S.rf, fun q hq => Or.inr (hsz ▸ hq)⟩ _ (lv_entry av hlen)

section
variable {p : Program} {l : Launch} {e : Env} {R : Room} {s : State} {m : MethodId} {args : Array Value} {below : List Frame} {meth : Method} {c : Code} {H : Heap} {locs : List Loc} {cells slots : Nat} {Q : State → Prop}
variable {cc : ByteArray} {pc nL : Nat} {ls : Array Slot} {rest st : List Value} {g : hl_G} {A : Nat → Prop} {a : Nat} {H0 : Heap} {own : String} {L : List Nat} {f : Nat → va_E}

/-! ### ends -/
section
variable {sz mc ms : Nat} {L0 : List Nat}
theorem hm_iret {post : Int32 → List Nat × (Nat → va_E) → Prop} {v : Int32} (X : CallFix p m c cc nL s args tg own) (hr : meth.sig.returnType = some .int) (hlk : meth.locks = false)
    (h : hl_H g (hm_A sz L0) s.heap L f H locs) (hp : post v (L, f)) (h1 : cells ≤ mc) (h2 : slots ≤ ms) (hdg : decode cc pc = .ok (.ireturn, 1)) :
    W p l e R s m args below meth c H locs cells slots (MQ below (va_Qi post (hm_B g sz L0) (hm_A sz L0)) args s mc ms (hm_A sz L0)) (F0 m pc ls [.int v]) := by
  refine W.widen h1 h2 ?_
  exact W.iret X.1 X.2.1 hr (fun t ht hW => ⟨⟨v, (L, f), rfl, hp, by rw [ht]; exact h.1, h.2.1⟩, h.2.2.1.F ht⟩) h.2.2.1.2.2 hdg hlk

theorem hm_zret {post : Int32 → List Nat × (Nat → va_E) → Prop} {v : Int32} (X : CallFix p m c cc nL s args tg own) (hr : meth.sig.returnType = some .boolean) (hlk : meth.locks = false)
    (h : hl_H g (hm_A sz L0) s.heap L f H locs) (hv : v = 0 ∨ v = 1) (hp : post v (L, f)) (h1 : cells ≤ mc) (h2 : slots ≤ ms) (hdg : decode cc pc = .ok (.ireturn, 1)) :
    W p l e R s m args below meth c H locs cells slots (MQ below (va_Qi post (hm_B g sz L0) (hm_A sz L0)) args s mc ms (hm_A sz L0)) (F0 m pc ls [.int v]) := by
  refine W.widen h1 h2 ?_
  refine W.zret (ty := .boolean) X.1 X.2.1 hr ?_ (fun t ht hW => ⟨⟨v, (L, f), rfl, hp, by rw [ht]; exact h.1, h.2.1⟩, h.2.2.1.F ht⟩) h.2.2.1.2.2 hdg hlk
  rcases hv with rfl | rfl <;> rfl

theorem hm_vret {post : List Nat × (Nat → va_E) → Prop} (X : CallFix p m c cc nL s args tg own) (hr : meth.sig.returnType = none) (hlk : meth.locks = false)
    (h : hl_H g (hm_A sz L0) s.heap L f H locs) (hp : post (L, f)) (h1 : cells ≤ mc) (h2 : slots ≤ ms) (hdg : decode cc pc = .ok (.return_, 1)) :
    W p l e R s m args below meth c H locs cells slots (MQ below (va_Qv post (hm_B g sz L0) (hm_A sz L0)) args s mc ms (hm_A sz L0)) (F0 m pc ls []) := by
  refine W.widen h1 h2 ?_
  exact W.vret X.1 X.2.1 hr (fun t ht hW => ⟨⟨(L, f), rfl, hp, by rw [ht]; exact h.1, h.2.1⟩, h.2.2.1.F ht⟩) h.2.2.1.2.2 hdg hlk

theorem hm_lret {post : Int64 → List Nat × (Nat → va_E) → Prop} {v : Int64} (X : CallFix p m c cc nL s args tg own) (hr : meth.sig.returnType = some .long) (hlk : meth.locks = false)
    (h : hl_H g (hm_A sz L0) s.heap L f H locs) (hp : post v (L, f)) (h1 : cells ≤ mc) (h2 : slots ≤ ms) (hdg : decode cc pc = .ok (.lreturn, 1)) :
    W p l e R s m args below meth c H locs cells slots (MQ below (va_Ql post (hm_B g sz L0) (hm_A sz L0)) args s mc ms (hm_A sz L0)) (F0 m pc ls [.long v]) := by
  refine W.widen h1 h2 ?_
  exact W.lret X.1 X.2.1 hr (fun t ht hW => ⟨⟨v, (L, f), rfl, hp, by rw [ht]; exact h.1, h.2.1⟩, h.2.2.1.F ht⟩) h.2.2.1.2.2 hdg hlk

/-- an answer that is a cell -/
theorem hm_aret {post : List Nat × (Nat → va_E) → Prop} {a0 : Nat} {C0 : String} (X : CallFix p m c cc nL s args tg own) (hr : meth.sig.returnType = some (.object C0)) (hlk : meth.locks = false)
    (h : hl_H g (hm_A sz L0) s.heap L f H locs) (hp : post (L, f)) (h1 : cells ≤ mc) (h2 : slots ≤ ms) (hdg : decode cc pc = .ok (.areturn, 1)) :
    W p l e R s m args below meth c H locs cells slots (MQ below (va_Qr post (fun u b t => b = a0 ∧ hm_B g sz L0 u t) (hm_A sz L0)) args s mc ms (hm_A sz L0)) (F0 m pc ls [.ref a0]) := by
  refine W.widen h1 h2 ?_
  exact W.aret X.1 X.2.1 hr (Or.inl ⟨_, rfl⟩) (Or.inr ⟨_, rfl⟩) (fun t ht hW => ⟨⟨(L, f), a0, rfl, hp, rfl, by rw [ht]; exact h.1, h.2.1⟩, h.2.2.1.F ht⟩) h.2.2.1.2.2 hdg hlk
end

/-! ### calls -/
theorem hl_inA (h : hl_H g A H0 L f H locs) : ∀ q, hm_A H.size L q → A q := by
  intro q hq
  rcases hq with hq | hq
  · obtain ⟨k, hk⟩ := hl_at (f := f) hq rfl
    exact h.2.1.2 k _ hk
  · exact h.2.2.2 q (Nat.le_trans h.2.2.1.1 hq)

section
variable {y : MethodName} {b : ByteArray} {n : Nat} {r : Option FieldType} {rm : Room} {Qc : Array Value → State → Outcome → State → Prop} {mc ms idx k o ci : Nat}
  {As fs : List Value} {q : vw_C}

theorem hl_runV (X : CallFix p m c cc nL s args tg own) (hK : hl_K g s) (h : hl_H g A H0 L f H locs)
    (M : Met l y (hq y b n r) rm (hm_P g (.ref o :: As) H.size L f) Qc mc ms (hm_A H.size L)) (hcode : Cond.code y b n r ∈ tg)
    (hlink : Cond.methodLink own idx y ∈ tg) (hini : Cond.initialized y.cls ∈ tg) (hinst : Cond.instanceMethod y ∈ tg) (hsel : Cond.selects y.cls y y ∈ tg)
    (hd : y.cls ≠ "java/lang/invoke/MethodHandle" ∧ y.cls ≠ "java/lang/invoke/VarHandle" ∧ (parseMethodDescriptor y.desc).map (fun d => d.parameters.length) = some k)
    (hrc : rm.cells = mc) (hrs : rm.slots = ms) (hR : rm.frames + 1 ≤ R.frames ∧ 8 + (n + 11) + rm.locals ≤ R.locals)
    (ho : o ∈ L) (hfo : f o = .inr (ci, fs)) (hc : classes[ci]? = some q) (hq1 : q.1 = y.cls) (hAs : As.length = k) (hst : st = As.reverse ++ .ref o :: rest)
    (hrm : (rest.map fun v => v.category).sum ≤ 8) (hls : ls.size = nL) (hdg : decode cc pc = .ok (.invokevirtual idx, 3)) (hf : cells + mc ≤ R.cells ∧ slots + ms ≤ R.slots) :
    va_Run p l e R s m args below meth c H locs cells slots mc ms (F0 m pc ls st) rest (Qc (Value.ref o :: As).toArray) (hm_A H.size L) := by
  obtain ⟨j, hj⟩ := hl_at ho hfo
  refine va_runV X M ⟨callB_of k X.2.2.2.2 (hq_good hcode) rfl hrc hrs (X.2.2.2.2 _ hini) (X.2.2.2.2 _ hlink) hd hR, X.2.2.2.2 _ hinst, X.2.2.2.2 _ hsel⟩ ⟨hl_blind, ?_, ?_⟩ rfl hAs hls hst (lv_room hrm) hdg hf
  · have := va_recv hK.1 h.1 hc hj
    rw [hq1] at this
    exact this
  · intro U hU hW
    exact ⟨rfl, by rw [hU], by rw [hU]; exact h.1, hK.warm hW, ⟨h.2.1.1, fun _ _ _ => trivial⟩⟩

theorem hl_runS (X : CallFix p m c cc nL s args tg own) (hK : hl_K g s) (h : hl_H g A H0 L f H locs)
    (M : Met l y (hq y b n r) rm (hm_P g As H.size L f) Qc mc ms (hm_A H.size L)) (hcode : Cond.code y b n r ∈ tg)
    (hlink : Cond.methodLink own idx y ∈ tg) (hini : Cond.initialized y.cls ∈ tg) (hinst : Cond.static y ∈ tg)
    (hd : y.cls ≠ "java/lang/invoke/MethodHandle" ∧ y.cls ≠ "java/lang/invoke/VarHandle" ∧ (parseMethodDescriptor y.desc).map (fun d => d.parameters.length) = some k)
    (hrc : rm.cells = mc) (hrs : rm.slots = ms) (hR : rm.frames + 1 ≤ R.frames ∧ 8 + (n + 11) + rm.locals ≤ R.locals)
    (hAs : As.length = k) (hst : st = As.reverse ++ rest)
    (hrm : (rest.map fun v => v.category).sum ≤ 8) (hls : ls.size = nL) (hdg : decode cc pc = .ok (.invokestatic idx, 3)) (hf : cells + mc ≤ R.cells ∧ slots + ms ≤ R.slots) :
    va_Run p l e R s m args below meth c H locs cells slots mc ms (F0 m pc ls st) rest (Qc As.toArray) (hm_A H.size L) := by
  refine va_runS X M ⟨callB_of k X.2.2.2.2 (hq_good hcode) rfl hrc hrs (X.2.2.2.2 _ hini) (X.2.2.2.2 _ hlink) hd hR, X.2.2.2.2 _ hinst⟩ ⟨hl_blind, ?_⟩ rfl hAs hls hst (lv_room hrm) hdg hf
  intro U hU hW
  exact ⟨rfl, by rw [hU], by rw [hU]; exact h.1, hK.warm hW, ⟨h.2.1.1, fun _ _ _ => trivial⟩⟩

/-- a static method of the nest's host -/
theorem hl_runSN {host : String} (X : CallFix p m c cc nL s args tg own) (hK : hl_K g s) (h : hl_H g A H0 L f H locs)
    (M : Met l y (hq y b n r) rm (hm_P g As H.size L f) Qc mc ms (hm_A H.size L)) (hcode : Cond.code y b n r ∈ tg)
    (hlink : va_Nw (.methodLinkNest own idx y host) s) (hini : Cond.initialized y.cls ∈ tg) (hinst : Cond.static y ∈ tg)
    (hd : y.cls ≠ "java/lang/invoke/MethodHandle" ∧ y.cls ≠ "java/lang/invoke/VarHandle" ∧ (parseMethodDescriptor y.desc).map (fun d => d.parameters.length) = some k)
    (hrc : rm.cells = mc) (hrs : rm.slots = ms) (hR : rm.frames + 1 ≤ R.frames ∧ 8 + (n + 11) + rm.locals ≤ R.locals)
    (hAs : As.length = k) (hst : st = As.reverse ++ rest)
    (hrm : (rest.map fun v => v.category).sum ≤ 8) (hls : ls.size = nL) (hdg : decode cc pc = .ok (.invokestatic idx, 3)) (hf : cells + mc ≤ R.cells ∧ slots + ms ≤ R.slots) :
    va_Run p l e R s m args below meth c H locs cells slots mc ms (F0 m pc ls st) rest (Qc As.toArray) (hm_A H.size L) := by
  refine va_runSN X M ⟨va_cnB k X.2.2.2.2 (hq_good hcode) rfl hrc hrs hlink (X.2.2.2.2 _ hini) hd hR, X.2.2.2.2 _ hinst, trivial⟩ ⟨hl_blind, ?_⟩ rfl hAs hls hst (lv_room hrm) hdg hf
  intro U hU hW
  exact ⟨rfl, by rw [hU], by rw [hU]; exact h.1, hK.warm hW, ⟨h.2.1.1, fun _ _ _ => trivial⟩⟩

theorem hl_runI (X : CallFix p m c cc nL s args tg own) (hK : hl_K g s) (h : hl_H g A H0 L f H locs)
    (M : Met l y (hq y b n none) rm (hm_P g (.ref o :: As) H.size L f) Qc mc ms (hm_A H.size L)) (hcode : Cond.code y b n none ∈ tg)
    (hlink : Cond.methodLink own idx y ∈ tg) (hini : Cond.initialized y.cls ∈ tg) (hinst : Cond.instanceMethod y ∈ tg) (hnm : y.name = "<init>")
    (hd : y.cls ≠ "java/lang/invoke/MethodHandle" ∧ y.cls ≠ "java/lang/invoke/VarHandle" ∧ (parseMethodDescriptor y.desc).map (fun d => d.parameters.length) = some k)
    (hrc : rm.cells = mc) (hrs : rm.slots = ms) (hR : rm.frames + 1 ≤ R.frames ∧ 8 + (n + 11) + rm.locals ≤ R.locals)
    (hAs : As.length = k) (hst : st = As.reverse ++ .ref o :: rest)
    (hrm : (rest.map fun v => v.category).sum ≤ 8) (hls : ls.size = nL) (hdg : decode cc pc = .ok (.invokespecial idx, 3)) (hf : cells + mc ≤ R.cells ∧ slots + ms ≤ R.slots) :
    va_Run p l e R s m args below meth c H locs cells slots mc ms (F0 m pc ls st) rest (Qc (Value.ref o :: As).toArray) (hm_A H.size L) := by
  refine va_runI X M ⟨callB_of k X.2.2.2.2 (hq_good hcode) rfl hrc hrs (X.2.2.2.2 _ hini) (X.2.2.2.2 _ hlink) hd hR, hnm, X.2.2.2.2 _ hinst⟩ ⟨hl_blind, ?_⟩ rfl hAs hls hst (lv_room hrm) hdg hf
  intro U hU hW
  exact ⟨rfl, by rw [hU], by rw [hU]; exact h.1, hK.warm hW, ⟨h.2.1.1, fun _ _ _ => trivial⟩⟩

variable {ar : Array Value}

theorem hl_calli {post : Int32 → List Nat × (Nat → va_E) → Prop} (h : hl_H g A H0 L f H locs)
    (hr : va_Run p l e R s m args below meth c H locs cells slots mc ms (F0 m pc ls st) rest (va_Qi post (hm_B g H.size L) (hm_A H.size L) ar) (hm_A H.size L))
    (kk : ∀ (r : Int32) (u : List Nat × (Nat → va_E)) (H1 : Heap) (locs1 : List Loc), post r u → hl_H g A H0 u.1 u.2 H1 locs1 →
      W p l e R s m args below meth c H1 locs1 (cells + mc) (slots + ms) Q (F0 m (pc + 3) ls (.int r :: rest))) :
    W p l e R s m args below meth c H locs cells slots Q (F0 m pc ls st) :=
  va_calli hr h.2.2.1 (fun q _ hq => hl_inA h q hq) (hl_inA h) (fun r u t H1 locs1 ht _ hp hB _ _ hS =>
    kk r u H1 locs1 hp ⟨by rw [← ht]; exact hB.1, ⟨hB.2.1, fun k q hk => hl_inA h _ (hB.2.2 k q hk)⟩, hS, h.2.2.2⟩)

theorem hl_calll {post : Int64 → List Nat × (Nat → va_E) → Prop} (h : hl_H g A H0 L f H locs)
    (hr : va_Run p l e R s m args below meth c H locs cells slots mc ms (F0 m pc ls st) rest (va_Ql post (hm_B g H.size L) (hm_A H.size L) ar) (hm_A H.size L))
    (kk : ∀ (r : Int64) (u : List Nat × (Nat → va_E)) (H1 : Heap) (locs1 : List Loc), post r u → hl_H g A H0 u.1 u.2 H1 locs1 →
      W p l e R s m args below meth c H1 locs1 (cells + mc) (slots + ms) Q (F0 m (pc + 3) ls (.long r :: rest))) :
    W p l e R s m args below meth c H locs cells slots Q (F0 m pc ls st) :=
  va_calll hr h.2.2.1 (fun q _ hq => hl_inA h q hq) (hl_inA h) (fun r u t H1 locs1 ht _ hp hB _ _ hS =>
    kk r u H1 locs1 hp ⟨by rw [← ht]; exact hB.1, ⟨hB.2.1, fun k q hk => hl_inA h _ (hB.2.2 k q hk)⟩, hS, h.2.2.2⟩)

theorem hl_callv {post : List Nat × (Nat → va_E) → Prop} (h : hl_H g A H0 L f H locs)
    (hr : va_Run p l e R s m args below meth c H locs cells slots mc ms (F0 m pc ls st) rest (va_Qv post (hm_B g H.size L) (hm_A H.size L) ar) (hm_A H.size L))
    (kk : ∀ (u : List Nat × (Nat → va_E)) (H1 : Heap) (locs1 : List Loc), post u → hl_H g A H0 u.1 u.2 H1 locs1 →
      W p l e R s m args below meth c H1 locs1 (cells + mc) (slots + ms) Q (F0 m (pc + 3) ls rest)) :
    W p l e R s m args below meth c H locs cells slots Q (F0 m pc ls st) :=
  va_callv hr h.2.2.1 (fun q _ hq => hl_inA h q hq) (hl_inA h) (fun u t H1 locs1 ht _ hp hB _ _ hS =>
    kk u H1 locs1 hp ⟨by rw [← ht]; exact hB.1, ⟨hB.2.1, fun k q hk => hl_inA h _ (hB.2.2 k q hk)⟩, hS, h.2.2.2⟩)

theorem hl_callr {post : List Nat × (Nat → va_E) → Prop} {a0 : Nat} (h : hl_H g A H0 L f H locs)
    (hr : va_Run p l e R s m args below meth c H locs cells slots mc ms (F0 m pc ls st) rest (va_Qr post (fun u b t => b = a0 ∧ hm_B g H.size L u t) (hm_A H.size L) ar) (hm_A H.size L))
    (kk : ∀ (u : List Nat × (Nat → va_E)) (H1 : Heap) (locs1 : List Loc), post u → hl_H g A H0 u.1 u.2 H1 locs1 →
      W p l e R s m args below meth c H1 locs1 (cells + mc) (slots + ms) Q (F0 m (pc + 3) ls (.ref a0 :: rest))) :
    W p l e R s m args below meth c H locs cells slots Q (F0 m pc ls st) :=
  va_callr hr h.2.2.1 (fun q _ hq => hl_inA h q hq) (hl_inA h) (fun u ra t H1 locs1 ht _ hp hB _ _ hS => by
    obtain ⟨rfl, hB⟩ := hB
    exact kk u H1 locs1 hp ⟨by rw [← ht]; exact hB.1, ⟨hB.2.1, fun k q hk => hl_inA h _ (hB.2.2 k q hk)⟩, hS, h.2.2.2⟩)
end

/-! ### boolean rows -/
theorem hl_zald (X : CallFix p m c cc nL s args tg own) (hK : hl_K g s) (h : hl_H g A H0 L f H locs) {n i : Nat} {z : Nat → Int32}
    (ha : a ∈ L) (hfa : f a = hl_zow g n z) (hi : i < n) (hn : n < 2 ^ 31) (hdg : decode cc pc = .ok (.baload, 1))
    (kk : W p l e R s m args below meth c H locs cells slots Q (F0 m (pc + 1) ls (.int (z i) :: rest))) :
    W p l e R s m args below meth c H locs cells slots Q (F0 m pc ls (.int (nI i) :: .ref a :: rest)) := by
  obtain ⟨j, hj⟩ := hl_at ha hfa
  refine va_zald X.1 X.2.1 hK.1 h.1 j 1 hj rfl (vp_in_nI hi hn) hdg ?_
  rw [nI_clamp (by omega)]
  exact kk

theorem hl_zast (X : CallFix p m c cc nL s args tg own) (hK : hl_K g s) (h : hl_H g A H0 L f H locs) {n i : Nat} {z : Nat → Int32} {x : Int32}
    (ha : a ∈ L) (hfa : f a = hl_zow g n z) (hi : i < n) (hn : n < 2 ^ 31) (hx : x = 0 ∨ x = 1) (hdg : decode cc pc = .ok (.bastore, 1))
    (kk : ∀ (H1 : Heap) (locs1 : List Loc), hl_H g A H0 L (va_up f a (hl_zow g n (va_up z i x))) H1 locs1 →
      W p l e R s m args below meth c H1 locs1 cells slots Q (F0 m (pc + 1) ls rest)) :
    W p l e R s m args below meth c H locs cells slots Q (F0 m pc ls (.int x :: .int (nI i) :: .ref a :: rest)) := by
  obtain ⟨j, hj⟩ := hl_at ha hfa
  obtain ⟨hP, hD, hS, hA⟩ := h
  refine va_zast X.1 X.2.1 hK.1 hP hD hS j 1 hj rfl (vp_in_nI hi hn) hdg (fun H1 locs1 hP1 hD1 hS1 => ?_)
  have e : vp_nar .boolean x = x := by rcases hx with rfl | rfl <;> rfl
  rw [hl_set hD ha hfa hj, nI_clamp (by omega), e] at hP1 hD1
  exact kk H1 locs1 ⟨hP1, hD1, hS1, hA⟩

/-! ### System.arraycopy of int rows -/
theorem hl_copy (X : CallFix p m c cc nL s args tg own) (hK : hl_K g s) (h : hl_H g A H0 L f H locs) {index n0 n1 sp dp n b : Nat} {z w : Nat → Int32}
    (hlink : Cond.methodLink own index arraycopyName ∈ tg) (hb : b ∈ L) (hfb : f b = hl_row g n0 z) (ha : a ∈ L) (hfa : f a = hl_row g n1 w)
    (h4 : sp + n ≤ n0) (h5 : dp + n ≤ n1) (hn0 : n0 < 2 ^ 31) (hn1 : n1 < 2 ^ 31) (hls : ls.size = nL)
    (hframes : 1 ≤ R.frames) (hlocals : (rest.map fun v => v.category).sum + (nativeFrameWords "java/lang/System" "arraycopy" 5 + 11) ≤ R.locals) (hdg : decode cc pc = .ok (.invokestatic index, 3))
    (kk : ∀ (H1 : Heap) (locs1 : List Loc), hl_H g A H0 L (va_up f a (hl_row g n1 (va_cpy z w sp dp n))) H1 locs1 →
      W p l e R s m args below meth c H1 locs1 cells slots Q (F0 m (pc + 3) ls rest)) :
    W p l e R s m args below meth c H locs cells slots Q (F0 m pc ls (.int (nI n) :: .int (nI dp) :: .ref a :: .int (nI sp) :: .ref b :: rest)) := by
  obtain ⟨j, hj⟩ := hl_at ha hfa
  obtain ⟨i, hi⟩ := hl_at hb hfb
  obtain ⟨hP, hD, hS, hA⟩ := h
  refine va_copyi X.1 X.2.1 (by rw [X.2.2.1]; exact hls.symm) X.2.2.2.1 (X.2.2.2.2 _ hlink) (X.2.2.2.2 _ (tg_of (by decide +kernel) rfl)) (X.2.2.2.2 _ (tg_of (by decide +kernel) rfl)) (X.2.2.2.2 _ (tg_of (by decide +kernel) rfl)) hK.1 hP hD hS i j 0 0 (ty := .int) hi hj rfl rfl rfl
    (nI_pos (by omega)) (nI_pos (by omega)) (nI_pos (by omega)) (by rw [nI_clamp (by omega), nI_clamp (by omega)]; exact h4) (by rw [nI_clamp (by omega), nI_clamp (by omega)]; exact h5) (fun _ _ => rfl) hframes hlocals hdg (fun H1 locs1 hP1 hD1 hS1 => ?_)
  rw [hl_set hD ha hfa hj, nI_clamp (by omega), nI_clamp (by omega), nI_clamp (by omega)] at hP1 hD1
  exact kk H1 locs1 ⟨hP1, hD1, hS1, hA⟩

end

end
