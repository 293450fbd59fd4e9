/-! The law's own cell(script, k), and its call. -/
section
/-- a contract's start where the script lies beside the pool -/
def hc_P (g : hl_G) (av : List Value) (sz : Nat) (L : List Nat) (f : Nat → va_E) (bb N : Nat) (xs : Nat → Int32) : Array Value → State → Prop :=
  va_Pc av (fun U => (U.heap.size = sz ∧ va_P g.1 classes (va_pl L f) U.heap ∧ hl_K g U ∧ va_D (fun _ => True) (va_pl L f)) ∧ va_X bb N xs U U.heap ∧ bb < sz ∧ bb ∉ L)
theorem hc_blind {g : hl_G} {av : List Value} {sz : Nat} {L : List Nat} {f : Nat → va_E} {bb N : Nat} {xs : Nat → Int32} : FrameBlind (hc_P g av sz L f bb N xs) :=
  fun a U g' mk q => by
    obtain ⟨q0, ⟨q1, qP, qK, qD⟩, qX, q3, q4⟩ := q
    exact ⟨q0, ⟨q1, qP, hl_K.same rfl qK, qD⟩, va_X.moved (u := U) (U := U.calling g' mk a) (Vm.Alike.refl U.vm) qX, q3, q4⟩
section
variable {p : Program} {l : Launch} {e : Env} {R : Room} {s : State} {m : MethodId} {args : Array Value} {below : List Frame} {meth : Method} {c : Code} {H : Heap} {locs : List Loc} {cells slots : Nat} {Q : State → Prop}
variable {cc : ByteArray} {pc nL : Nat} {ls : Array Slot} {rest st : List Value} {g : hl_G} {A : Nat → Prop} {H0 : Heap} {own : String} {L : List Nat} {f : Nat → va_E}
variable {y : MethodName} {b : ByteArray} {n k idx mc ms : Nat} {r : Option FieldType} {rm : Room} {As : List Value} {Qc : Array Value → State → Outcome → State → Prop}
theorem hl_runC {bb N : Nat} {xs : Nat → Int32} (X : CallFix p m c cc nL s args tg own) (hK : hl_K g s) (h : hl_H g A H0 L f H locs) (hx : va_X bb N xs s H) (hbl : bb < H.size) (hbn : bb ∉ L)
    (M : Met l y (hq y b n r) rm (hc_P g As H.size L f bb N xs) Qc mc ms (hm_A H.size L)) (hcode : Cond.code y b n r ∈ tg)
    (hlink : Cond.methodLink own idx y ∈ tg) (hini : Cond.initialized y.cls ∈ tg) (hinst : Cond.static y ∈ tg)
    (hd : y.cls ≠ "java/lang/invoke/MethodHandle" ∧ y.cls ≠ "java/lang/invoke/VarHandle" ∧ (parseMethodDescriptor y.desc).map (fun d => d.parameters.length) = some k)
    (hrc : rm.cells = mc) (hrs : rm.slots = ms) (hR : rm.frames + 1 ≤ R.frames ∧ 8 + (n + 11) + rm.locals ≤ R.locals)
    (hAs : As.length = k) (hst : st = As.reverse ++ rest)
    (hrm : (rest.map fun v => v.category).sum ≤ 8) (hls : ls.size = nL) (hdg : decode cc pc = .ok (.invokestatic idx, 3)) (hf : cells + mc ≤ R.cells ∧ slots + ms ≤ R.slots) :
    va_Run p l e R s m args below meth c H locs cells slots mc ms (F0 m pc ls st) rest (Qc As.toArray) (hm_A H.size L) := by
  refine va_runS X M ⟨callB_of k X.2.2.2.2 (hq_good hcode) rfl hrc hrs (X.2.2.2.2 _ hini) (X.2.2.2.2 _ hlink) hd hR, X.2.2.2.2 _ hinst⟩ ⟨hc_blind, ?_⟩ rfl hAs hls hst (lv_room hrm) hdg hf
  intro U hU hW
  exact ⟨rfl, ⟨by rw [hU], by rw [hU]; exact h.1, hK.warm hW, ⟨h.2.1.1, fun _ _ _ => trivial⟩⟩, by rw [hU]; exact va_X.moved hW.alike hx, hbl, hbn⟩
end

/-- private static int cell(int[] s, int k), at 0 -/
theorem c_L_cell (l : Launch) (g : hl_G) (sz : Nat) (L : List Nat) (f : Nat → va_E) (bb N : Nat) (xs : Nat → Int32) (hN : N ≤ 2561) :
    Met l y_L_cell (hq y_L_cell b_L_cell 2 (some .int)) { frames := 0, cells := 0, slots := 0, locals := 0 } (hc_P g [.ref bb, .int (nI 0)] sz L f bb N xs) (va_Qi (fun r u => r = (if N = 0 then nI 0 else xs 0) ∧ u = (L, f)) (hm_B g sz L) (hm_A sz L)) 0 0 (hm_A sz L) := by
  refine Met.ofW (cc := b_L_cell) (maxL := 2) (ret := some .int) (by decide) rfl ?_
  intro p e s m args below meth c s₁ B hml hv
  obtain ⟨rfl, ⟨hsz, hP, hK, hD0⟩, hX, hbl, hbn⟩ := hv
  have hts := atoms_spec (ws := hq y_L_cell b_L_cell 2 (some .int)) B.pre
  have X : CallFix p m c b_L_cell 2 s #[.ref bb, .int (nI 0)] tg y_L_cell.cls := ⟨B.exec, B.bytes, hml, findClass_of_methodNamed B.named, fun w hw => hts w (List.mem_cons_of_mem _ hw)⟩
  have hr := B.returns
  have hlk := B.notSynchronized
  have hh : hl_H g (hm_A sz L) s.heap L f s.heap [] := ⟨hP, ⟨hD0.1, fun k q hk => Or.inl (hl_mem hk)⟩, va_S.rf, fun q hq => Or.inr (hsz ▸ hq)⟩
  have hbl2 : bb < s.heap.size := by omega
  have hbA : ¬ hm_A sz L bb := fun h => by
    rcases h with h | h
    · exact hbn h
    · omega
  rw [lg_entry_eq]
  have key : ∀ (ls : Array Slot), lv_has ls 2 [(0, .ref bb), (1, .int (nI 0))] → W p l e { frames := 0, cells := 0, slots := 0, locals := 0 } s m #[.ref bb, .int (nI 0)] below meth c s.heap [] 0 0 (MQ below (va_Qi (fun r u => r = (if N = 0 then nI 0 else xs 0) ∧ u = (L, f)) (hm_B g sz L) (hm_A sz L)) #[.ref bb, .int (nI 0)] s 0 0 (hm_A sz L)) (F0 m 0 ls []) := by
    intro ls hl
    refine lv_iload_n X.1 X.2.1 d_L_cell_0 rfl (lv_at hl 1 rfl) ?_
    refine lv_aload_n X.1 X.2.1 d_L_cell_1 rfl (lv_at hl 0 rfl) ?_
    refine va_slen X.1 X.2.1 hX hbl2 hbA hh.2.2.1 d_L_cell_2 ?_
    refine hn_ige (tgt := 12) X (by omega) (by omega) d_L_cell_3 (by decide) (fun hc => ?_) (fun hc => ?_)
    · have hc : N ≤ 0 := hc
      refine lv_iconst (v := nI 0) X.1 X.2.1 d_L_cell_12 (by decide) ?_
      exact hm_iret X hr hlk hh ⟨by rw [if_pos (by omega)], rfl⟩ (Nat.le_of_ble_eq_true rfl) (Nat.le_of_ble_eq_true rfl) d_L_cell_13
    have hc : ¬ N ≤ 0 := by omega
    refine lv_aload_n X.1 X.2.1 d_L_cell_6 rfl (lv_at hl 0 rfl) ?_
    refine lv_iload_n X.1 X.2.1 d_L_cell_7 rfl (lv_at hl 1 rfl) ?_
    refine va_sld X.1 X.2.1 hX hbl2 hbA hh.2.2.1 (vp_in_nI (by omega) (by omega)) d_L_cell_8 ?_
    rw [nI_clamp (by decide)]
    refine lv_goto (tgt := 13) X.1 X.2.1 d_L_cell_9 (by decide) ?_
    exact hm_iret X hr hlk hh ⟨by rw [if_neg (by omega)], rfl⟩ (Nat.le_of_ble_eq_true rfl) (Nat.le_of_ble_eq_true rfl) d_L_cell_13
  exact key _ (lv_entry [.ref bb, .int (nI 0)] (Nat.le_of_ble_eq_true rfl))
end

