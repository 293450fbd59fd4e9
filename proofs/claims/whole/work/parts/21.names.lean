def R_C : String := "CycleGroups"
def F_C : u_T := fun k => match k with
  | 0 => ("CycleGroups", "places", "I", true)
  | 1 => ("CycleGroups", "moves", "[[I", true)
  | 2 => ("CycleGroups", "movesMade", "I", false)
  | 3 => ("CycleGroups", "states", "[[I", true)
  | 4 => ("CycleGroups", "statesMade", "I", false)
  | 5 => ("CycleGroups", "partition", "LCycleGroups$Partition;", true)
  | 6 => ("CycleGroups", "decimal", "LCycleGroups$Decimal;", true)
  | 7 => ("CycleGroups", "chain", "LCycleGroups$Chain;", false)
  | _ => ("CycleGroups", "chainIsStale", "Z", false)
def t_C : Nat → FieldType := fun k => match k with
  | 0 => .int
  | 1 => .array (.array .int)
  | 2 => .int
  | 3 => .array (.array .int)
  | 4 => .int
  | 5 => .object "CycleGroups$Partition"
  | 6 => .object "CycleGroups$Decimal"
  | 7 => .object "CycleGroups$Chain"
  | _ => .boolean
def R_H : String := "CycleGroups$Chain"
def F_H : u_T := fun k => match k with
  | 0 => ("CycleGroups$Chain", "places", "I", true)
  | 1 => ("CycleGroups$Chain", "links", "[LCycleGroups$Link;", true)
  | _ => ("CycleGroups$Chain", "work", "[I", true)
def t_H : Nat → FieldType := fun k => match k with
  | 0 => .int
  | 1 => .array (.object "CycleGroups$Link")
  | _ => .array .int
def R_D : String := "CycleGroups$Decimal"
def F_D : u_T := fun k => match k with
  | _ => ("CycleGroups$Decimal", "digits", "[I", true)
def t_D : Nat → FieldType := fun k => match k with
  | _ => .array .int
def R_K : String := "CycleGroups$Link"
def F_K : u_T := fun k => match k with
  | 0 => ("CycleGroups$Link", "generators", "[[I", true)
  | 1 => ("CycleGroups$Link", "generatorsHeld", "I", false)
  | 2 => ("CycleGroups$Link", "paired", "[I", true)
  | 3 => ("CycleGroups$Link", "spreadPlaces", "[I", true)
  | 4 => ("CycleGroups$Link", "spreadHeld", "I", false)
  | 5 => ("CycleGroups$Link", "indexInSpread", "[I", true)
  | _ => ("CycleGroups$Link", "waysBack", "[[I", true)
def t_K : Nat → FieldType := fun k => match k with
  | 0 => .array (.array .int)
  | 1 => .int
  | 2 => .array .int
  | 3 => .array .int
  | 4 => .int
  | 5 => .array .int
  | _ => .array (.array .int)
def R_P : String := "CycleGroups$Partition"
def F_P : u_T := fun k => match k with
  | _ => ("CycleGroups$Partition", "least", "[I", true)
def t_P : Nat → FieldType := fun k => match k with
  | _ => .array .int
def R_M : String := "CycleGroupsModel"
def F_M : u_T := fun k => match k with
  | 0 => ("CycleGroupsModel", "places", "I", true)
  | 1 => ("CycleGroupsModel", "thrown", "I", false)
  | 2 => ("CycleGroupsModel", "moves", "I", false)
  | 3 => ("CycleGroupsModel", "move", "[I", true)
  | 4 => ("CycleGroupsModel", "states", "I", false)
  | 5 => ("CycleGroupsModel", "state", "[I", true)
  | 6 => ("CycleGroupsModel", "isKnown", "Z", false)
  | 7 => ("CycleGroupsModel", "rows", "[I", true)
  | 8 => ("CycleGroupsModel", "has", "[Z", true)
  | 9 => ("CycleGroupsModel", "makers", "I", false)
  | 10 => ("CycleGroupsModel", "maker", "[I", true)
  | 11 => ("CycleGroupsModel", "low", "[I", true)
  | 12 => ("CycleGroupsModel", "high", "[I", true)
  | 13 => ("CycleGroupsModel", "label", "[I", true)
  | 14 => ("CycleGroupsModel", "isUsed", "[Z", true)
  | 15 => ("CycleGroupsModel", "queue", "[I", true)
  | 16 => ("CycleGroupsModel", "by", "[I", true)
  | 17 => ("CycleGroupsModel", "seen", "[Z", true)
  | 18 => ("CycleGroupsModel", "work", "[I", true)
  | 19 => ("CycleGroupsModel", "round", "[I", true)
  | 20 => ("CycleGroupsModel", "sets", "[I", true)
  | 21 => ("CycleGroupsModel", "digits", "[I", true)
  | 22 => ("CycleGroupsModel", "ring", "[I", true)
  | _ => ("CycleGroupsModel", "more", "[I", true)
def t_M : Nat → FieldType := fun k => match k with
  | 0 => .int
  | 1 => .int
  | 2 => .int
  | 3 => .array .int
  | 4 => .int
  | 5 => .array .int
  | 6 => .boolean
  | 7 => .array .int
  | 8 => .array .boolean
  | 9 => .int
  | 10 => .array .int
  | 11 => .array .int
  | 12 => .array .int
  | 13 => .array .int
  | 14 => .array .boolean
  | 15 => .array .int
  | 16 => .array .int
  | 17 => .array .boolean
  | 18 => .array .int
  | 19 => .array .int
  | 20 => .array .int
  | 21 => .array .int
  | 22 => .array .int
  | _ => .array .int
def R_L : String := "CycleGroupsLaw"
def R_A : String := "java/util/Arrays"
abbrev classes : List vw_C := [(R_C, F_C, 9), (R_H, F_H, 3), (R_D, F_D, 1), (R_K, F_K, 7), (R_P, F_P, 1), (R_M, F_M, 24)]
theorem n_C : ∀ a, a < 9 → ∀ b, b < 9 → a ≠ b → (F_C a).2.1 ≠ (F_C b).2.1 := by decide +kernel
theorem t_C_ok : ∀ k, k < 9 → parseFieldDescriptor (F_C k).2.2.1 = some (t_C k) := by decide +kernel
theorem n_H : ∀ a, a < 3 → ∀ b, b < 3 → a ≠ b → (F_H a).2.1 ≠ (F_H b).2.1 := by decide +kernel
theorem t_H_ok : ∀ k, k < 3 → parseFieldDescriptor (F_H k).2.2.1 = some (t_H k) := by decide +kernel
theorem n_D : ∀ a, a < 1 → ∀ b, b < 1 → a ≠ b → (F_D a).2.1 ≠ (F_D b).2.1 := by decide +kernel
theorem t_D_ok : ∀ k, k < 1 → parseFieldDescriptor (F_D k).2.2.1 = some (t_D k) := by decide +kernel
theorem n_K : ∀ a, a < 7 → ∀ b, b < 7 → a ≠ b → (F_K a).2.1 ≠ (F_K b).2.1 := by decide +kernel
theorem t_K_ok : ∀ k, k < 7 → parseFieldDescriptor (F_K k).2.2.1 = some (t_K k) := by decide +kernel
theorem n_P : ∀ a, a < 1 → ∀ b, b < 1 → a ≠ b → (F_P a).2.1 ≠ (F_P b).2.1 := by decide +kernel
theorem t_P_ok : ∀ k, k < 1 → parseFieldDescriptor (F_P k).2.2.1 = some (t_P k) := by decide +kernel
theorem n_M : ∀ a, a < 24 → ∀ b, b < 24 → a ≠ b → (F_M a).2.1 ≠ (F_M b).2.1 := by decide +kernel
theorem t_M_ok : ∀ k, k < 24 → parseFieldDescriptor (F_M k).2.2.1 = some (t_M k) := by decide +kernel
def tg : List Cond := lw_tbl.filter goodWord
theorem tg_good : ∀ w ∈ tg, (w.onTables && w.keeps) = true ∨ ∃ ty, w = .arrayClass ty := fun w h => good_of_word (List.mem_filter.1 h).2
theorem tg_of {w : Cond} (h : w ∈ lw_tbl) (hg : goodWord w = true) : w ∈ tg := List.mem_filter.2 ⟨h, hg⟩
theorem tg_in {w : Cond} (h : w ∈ tg) : w ∈ lw_tbl := (List.mem_filter.1 h).1
theorem i_C : ∀ w ∈ u_ws R_C F_C 9, w ∈ tg := by decide +kernel
theorem i_H : ∀ w ∈ u_ws R_H F_H 3, w ∈ tg := by decide +kernel
theorem i_D : ∀ w ∈ u_ws R_D F_D 1, w ∈ tg := by decide +kernel
theorem i_K : ∀ w ∈ u_ws R_K F_K 7, w ∈ tg := by decide +kernel
theorem i_P : ∀ w ∈ u_ws R_P F_P 1, w ∈ tg := by decide +kernel
theorem i_M : ∀ w ∈ u_ws R_M F_M 24, w ∈ tg := by decide +kernel
theorem w_0 : Jvm.Cond.initialized "CycleGroupsLaw" ∈ tg := tg_of (List.mem_append_right _ (List.mem_append_left _ (List.mem_of_getElem? (l := tables_1_1) (i := 0) (by rfl)))) rfl
theorem w_1 : Jvm.Cond.initialized "CycleGroups" ∈ tg := tg_of (List.mem_append_right _ (List.mem_append_left _ (List.mem_of_getElem? (l := tables_1_1) (i := 1) (by rfl)))) rfl
theorem w_2 : Jvm.Cond.initialized "java/lang/Math" ∈ tg := tg_of (List.mem_append_right _ (List.mem_append_left _ (List.mem_of_getElem? (l := tables_1_1) (i := 2) (by rfl)))) rfl
theorem w_3 : Jvm.Cond.initialized "CycleGroups$Partition" ∈ tg := tg_of (List.mem_append_right _ (List.mem_append_left _ (List.mem_of_getElem? (l := tables_1_1) (i := 3) (by rfl)))) rfl
theorem w_4 : Jvm.Cond.initialized "CycleGroups$Decimal" ∈ tg := tg_of (List.mem_append_right _ (List.mem_append_left _ (List.mem_of_getElem? (l := tables_1_1) (i := 4) (by rfl)))) rfl
theorem w_5 : Jvm.Cond.initialized "CycleGroupsModel" ∈ tg := tg_of (List.mem_append_right _ (List.mem_append_left _ (List.mem_of_getElem? (l := tables_1_1) (i := 5) (by rfl)))) rfl
theorem w_6 : Jvm.Cond.initialized "CycleGroups$Chain" ∈ tg := tg_of (List.mem_append_right _ (List.mem_append_left _ (List.mem_of_getElem? (l := tables_1_1) (i := 6) (by rfl)))) rfl
theorem w_7 : Jvm.Cond.initialized "CycleGroups$Link" ∈ tg := tg_of (List.mem_append_right _ (List.mem_append_left _ (List.mem_of_getElem? (l := tables_1_1) (i := 7) (by rfl)))) rfl
theorem w_8 : Jvm.Cond.initialized "java/util/Arrays" ∈ tg := tg_of (List.mem_append_right _ (List.mem_append_left _ (List.mem_of_getElem? (l := tables_1_1) (i := 8) (by rfl)))) rfl
theorem w_9 : Jvm.Cond.initialized "java/lang/System" ∈ tg := tg_of (List.mem_append_right _ (List.mem_append_left _ (List.mem_of_getElem? (l := tables_1_1) (i := 9) (by rfl)))) rfl
theorem w_10 : Jvm.Cond.classLink "CycleGroupsLaw" (7 : Nat) "CycleGroups" ∈ tg := tg_of (List.mem_append_right _ (List.mem_append_left _ (List.mem_of_getElem? (l := tables_1_1) (i := 10) (by rfl)))) rfl
theorem w_11 : Jvm.Cond.instantiable "CycleGroups" (9 : Nat) ∈ tg := tg_of (List.mem_append_right _ (List.mem_append_left _ (List.mem_of_getElem? (l := tables_1_1) (i := 11) (by rfl)))) rfl
theorem w_12 : Jvm.Cond.methodLink "CycleGroupsLaw" (15 : Nat) ({ cls := "CycleGroups", name := "<init>", desc := "(I)V" } : Jvm.MethodName) ∈ tg := tg_of (List.mem_append_right _ (List.mem_append_left _ (List.mem_of_getElem? (l := tables_1_1) (i := 12) (by rfl)))) rfl
theorem w_13 : Jvm.Cond.instanceMethod ({ cls := "CycleGroups", name := "<init>", desc := "(I)V" } : Jvm.MethodName) ∈ tg := tg_of (List.mem_append_right _ (List.mem_append_left _ (List.mem_of_getElem? (l := tables_1_1) (i := 13) (by rfl)))) rfl
theorem w_14 : Jvm.Cond.code ({ cls := "CycleGroups", name := "<init>", desc := "(I)V" } : Jvm.MethodName) prog_1_method_1_code (2 : Nat) (Option.none : Option Jvm.ClassFile.FieldType) ∈ tg := tg_of (List.mem_append_right _ (List.mem_append_left _ (List.mem_of_getElem? (l := tables_1_1) (i := 14) (by rfl)))) rfl
theorem w_15 : Jvm.Cond.methodLink "CycleGroups" (1 : Nat) ({ cls := "java/lang/Object", name := "<init>", desc := "()V" } : Jvm.MethodName) ∈ tg := tg_of (List.mem_append_right _ (List.mem_append_left _ (List.mem_of_getElem? (l := tables_1_1) (i := 15) (by rfl)))) rfl
theorem w_16 : Jvm.Cond.instanceMethod ({ cls := "java/lang/Object", name := "<init>", desc := "()V" } : Jvm.MethodName) ∈ tg := tg_of (List.mem_append_right _ (List.mem_append_left _ (List.mem_of_getElem? (l := tables_1_1) (i := 16) (by rfl)))) rfl
theorem w_17 : Jvm.Cond.code ({ cls := "java/lang/Object", name := "<init>", desc := "()V" } : Jvm.MethodName) object_method_1_code (1 : Nat) (Option.none : Option Jvm.ClassFile.FieldType) ∈ tg := tg_of (List.mem_append_right _ (List.mem_append_left _ (List.mem_of_getElem? (l := tables_1_1) (i := 17) (by rfl)))) rfl
theorem w_18 : Jvm.Cond.methodLink "CycleGroups" (9 : Nat) ({ cls := "java/lang/Math", name := "min", desc := "(II)I" } : Jvm.MethodName) ∈ tg := tg_of (List.mem_append_right _ (List.mem_append_left _ (List.mem_of_getElem? (l := tables_1_1) (i := 18) (by rfl)))) rfl
theorem w_19 : Jvm.Cond.static ({ cls := "java/lang/Math", name := "min", desc := "(II)I" } : Jvm.MethodName) ∈ tg := tg_of (List.mem_append_right _ (List.mem_append_left _ (List.mem_of_getElem? (l := tables_1_1) (i := 19) (by rfl)))) rfl
theorem w_20 : Jvm.Cond.code ({ cls := "java/lang/Math", name := "min", desc := "(II)I" } : Jvm.MethodName) prog_8_method_69_code (2 : Nat) (Option.some Jvm.ClassFile.FieldType.int) ∈ tg := tg_of (List.mem_append_right _ (List.mem_append_left _ (List.mem_of_getElem? (l := tables_1_1) (i := 20) (by rfl)))) rfl
theorem w_21 : Jvm.Cond.methodLink "CycleGroups" (15 : Nat) ({ cls := "java/lang/Math", name := "max", desc := "(II)I" } : Jvm.MethodName) ∈ tg := tg_of (List.mem_append_right _ (List.mem_append_left _ (List.mem_of_getElem? (l := tables_1_1) (i := 21) (by rfl)))) rfl
theorem w_22 : Jvm.Cond.static ({ cls := "java/lang/Math", name := "max", desc := "(II)I" } : Jvm.MethodName) ∈ tg := tg_of (List.mem_append_right _ (List.mem_append_left _ (List.mem_of_getElem? (l := tables_1_1) (i := 22) (by rfl)))) rfl
theorem w_23 : Jvm.Cond.code ({ cls := "java/lang/Math", name := "max", desc := "(II)I" } : Jvm.MethodName) prog_8_method_65_code (2 : Nat) (Option.some Jvm.ClassFile.FieldType.int) ∈ tg := tg_of (List.mem_append_right _ (List.mem_append_left _ (List.mem_of_getElem? (l := tables_1_1) (i := 23) (by rfl)))) rfl
theorem w_24 : Jvm.Cond.classLink "CycleGroups" (22 : Nat) "[[I" ∈ tg := tg_of (List.mem_append_right _ (List.mem_append_left _ (List.mem_of_getElem? (l := tables_1_1) (i := 24) (by rfl)))) rfl
theorem w_25 : Jvm.Cond.arrayOver (Jvm.ClassFile.FieldType.array Jvm.ClassFile.FieldType.int) ∈ lw_tbl := List.mem_append_right _ (List.mem_append_left _ (List.mem_of_getElem? (l := tables_1_1) (i := 25) (by rfl)))
theorem w_26 : Jvm.Cond.classLink "CycleGroups" (30 : Nat) "CycleGroups$Partition" ∈ tg := tg_of (List.mem_append_right _ (List.mem_append_left _ (List.mem_of_getElem? (l := tables_1_1) (i := 26) (by rfl)))) rfl
theorem w_27 : Jvm.Cond.instantiable "CycleGroups$Partition" (1 : Nat) ∈ tg := tg_of (List.mem_append_right _ (List.mem_append_left _ (List.mem_of_getElem? (l := tables_1_1) (i := 27) (by rfl)))) rfl
theorem w_28 : Jvm.Cond.methodLink "CycleGroups" (32 : Nat) ({ cls := "CycleGroups$Partition", name := "<init>", desc := "(I)V" } : Jvm.MethodName) ∈ tg := tg_of (List.mem_append_right _ (List.mem_append_left _ (List.mem_of_getElem? (l := tables_1_1) (i := 28) (by rfl)))) rfl
theorem w_29 : Jvm.Cond.instanceMethod ({ cls := "CycleGroups$Partition", name := "<init>", desc := "(I)V" } : Jvm.MethodName) ∈ tg := tg_of (List.mem_append_right _ (List.mem_append_left _ (List.mem_of_getElem? (l := tables_1_1) (i := 29) (by rfl)))) rfl
theorem w_30 : Jvm.Cond.code ({ cls := "CycleGroups$Partition", name := "<init>", desc := "(I)V" } : Jvm.MethodName) prog_5_method_1_code (2 : Nat) (Option.none : Option Jvm.ClassFile.FieldType) ∈ tg := tg_of (List.mem_append_right _ (List.mem_append_left _ (List.mem_of_getElem? (l := tables_1_1) (i := 30) (by rfl)))) rfl
theorem w_31 : Jvm.Cond.methodLink "CycleGroups$Partition" (1 : Nat) ({ cls := "java/lang/Object", name := "<init>", desc := "()V" } : Jvm.MethodName) ∈ tg := tg_of (List.mem_append_right _ (List.mem_append_left _ (List.mem_of_getElem? (l := tables_1_1) (i := 31) (by rfl)))) rfl
theorem w_32 : Jvm.Cond.fieldLink "CycleGroups$Partition" (7 : Nat) "CycleGroups$Partition" "least" "[I" ∈ tg := tg_of (List.mem_append_right _ (List.mem_append_left _ (List.mem_of_getElem? (l := tables_1_1) (i := 32) (by rfl)))) rfl
theorem w_33 : Jvm.Cond.laysFinal "CycleGroups$Partition" "CycleGroups$Partition" "least" "[I" ∈ tg := tg_of (List.mem_append_right _ (List.mem_append_left _ (List.mem_of_getElem? (l := tables_1_1) (i := 33) (by rfl)))) rfl
theorem w_36 : Jvm.Cond.arrayClass Jvm.ClassFile.FieldType.int ∈ tg := tg_of (List.mem_append_right _ (List.mem_append_left _ (List.mem_of_getElem? (l := tables_1_1) (i := 36) (by rfl)))) rfl
theorem w_37 : Jvm.Cond.classLink "CycleGroups" (39 : Nat) "CycleGroups$Decimal" ∈ tg := tg_of (List.mem_append_right _ (List.mem_append_left _ (List.mem_of_getElem? (l := tables_1_1) (i := 37) (by rfl)))) rfl
theorem w_38 : Jvm.Cond.instantiable "CycleGroups$Decimal" (1 : Nat) ∈ tg := tg_of (List.mem_append_right _ (List.mem_append_left _ (List.mem_of_getElem? (l := tables_1_1) (i := 38) (by rfl)))) rfl
theorem w_39 : Jvm.Cond.methodLink "CycleGroups" (41 : Nat) ({ cls := "CycleGroups$Decimal", name := "<init>", desc := "()V" } : Jvm.MethodName) ∈ tg := tg_of (List.mem_append_right _ (List.mem_append_left _ (List.mem_of_getElem? (l := tables_1_1) (i := 39) (by rfl)))) rfl
theorem w_40 : Jvm.Cond.instanceMethod ({ cls := "CycleGroups$Decimal", name := "<init>", desc := "()V" } : Jvm.MethodName) ∈ tg := tg_of (List.mem_append_right _ (List.mem_append_left _ (List.mem_of_getElem? (l := tables_1_1) (i := 40) (by rfl)))) rfl
theorem w_41 : Jvm.Cond.code ({ cls := "CycleGroups$Decimal", name := "<init>", desc := "()V" } : Jvm.MethodName) prog_3_method_1_code (1 : Nat) (Option.none : Option Jvm.ClassFile.FieldType) ∈ tg := tg_of (List.mem_append_right _ (List.mem_append_left _ (List.mem_of_getElem? (l := tables_1_1) (i := 41) (by rfl)))) rfl
theorem w_42 : Jvm.Cond.methodLink "CycleGroups$Decimal" (1 : Nat) ({ cls := "java/lang/Object", name := "<init>", desc := "()V" } : Jvm.MethodName) ∈ tg := tg_of (List.mem_append_right _ (List.mem_append_left _ (List.mem_of_getElem? (l := tables_1_1) (i := 42) (by rfl)))) rfl
theorem w_43 : Jvm.Cond.fieldLink "CycleGroups$Decimal" (9 : Nat) "CycleGroups$Decimal" "digits" "[I" ∈ tg := tg_of (List.mem_append_right _ (List.mem_append_left _ (List.mem_of_getElem? (l := tables_1_1) (i := 43) (by rfl)))) rfl
theorem w_44 : Jvm.Cond.laysFinal "CycleGroups$Decimal" "CycleGroups$Decimal" "digits" "[I" ∈ tg := tg_of (List.mem_append_right _ (List.mem_append_left _ (List.mem_of_getElem? (l := tables_1_1) (i := 44) (by rfl)))) rfl
theorem w_47 : Jvm.Cond.fieldLink "CycleGroups" (18 : Nat) "CycleGroups" "places" "I" ∈ tg := tg_of (List.mem_append_right _ (List.mem_append_left _ (List.mem_of_getElem? (l := tables_1_1) (i := 47) (by rfl)))) rfl
theorem w_48 : Jvm.Cond.fieldLink "CycleGroups" (24 : Nat) "CycleGroups" "moves" "[[I" ∈ tg := tg_of (List.mem_append_right _ (List.mem_append_left _ (List.mem_of_getElem? (l := tables_1_1) (i := 48) (by rfl)))) rfl
theorem w_49 : Jvm.Cond.fieldLink "CycleGroups" (46 : Nat) "CycleGroups" "movesMade" "I" ∈ tg := tg_of (List.mem_append_right _ (List.mem_append_left _ (List.mem_of_getElem? (l := tables_1_1) (i := 49) (by rfl)))) rfl
theorem w_50 : Jvm.Cond.fieldLink "CycleGroups" (27 : Nat) "CycleGroups" "states" "[[I" ∈ tg := tg_of (List.mem_append_right _ (List.mem_append_left _ (List.mem_of_getElem? (l := tables_1_1) (i := 50) (by rfl)))) rfl
theorem w_51 : Jvm.Cond.fieldLink "CycleGroups" (104 : Nat) "CycleGroups" "statesMade" "I" ∈ tg := tg_of (List.mem_append_right _ (List.mem_append_left _ (List.mem_of_getElem? (l := tables_1_1) (i := 51) (by rfl)))) rfl
theorem w_52 : Jvm.Cond.fieldLink "CycleGroups" (35 : Nat) "CycleGroups" "partition" "LCycleGroups$Partition;" ∈ tg := tg_of (List.mem_append_right _ (List.mem_append_left _ (List.mem_of_getElem? (l := tables_1_1) (i := 52) (by rfl)))) rfl
theorem w_53 : Jvm.Cond.fieldLink "CycleGroups" (42 : Nat) "CycleGroups" "decimal" "LCycleGroups$Decimal;" ∈ tg := tg_of (List.mem_append_right _ (List.mem_append_left _ (List.mem_of_getElem? (l := tables_1_1) (i := 53) (by rfl)))) rfl
theorem w_54 : Jvm.Cond.fieldLink "CycleGroups" (130 : Nat) "CycleGroups" "chain" "LCycleGroups$Chain;" ∈ tg := tg_of (List.mem_append_right _ (List.mem_append_left _ (List.mem_of_getElem? (l := tables_1_1) (i := 54) (by rfl)))) rfl
theorem w_55 : Jvm.Cond.fieldLink "CycleGroups" (60 : Nat) "CycleGroups" "chainIsStale" "Z" ∈ tg := tg_of (List.mem_append_right _ (List.mem_append_left _ (List.mem_of_getElem? (l := tables_1_1) (i := 55) (by rfl)))) rfl
theorem w_56 : Jvm.Cond.laysFinal "CycleGroups" "CycleGroups" "places" "I" ∈ tg := tg_of (List.mem_append_right _ (List.mem_append_left _ (List.mem_of_getElem? (l := tables_1_1) (i := 56) (by rfl)))) rfl
theorem w_58 : Jvm.Cond.laysFinal "CycleGroups" "CycleGroups" "moves" "[[I" ∈ tg := tg_of (List.mem_append_right _ (List.mem_append_left _ (List.mem_of_getElem? (l := tables_1_1) (i := 58) (by rfl)))) rfl
theorem w_60 : Jvm.Cond.lays "CycleGroups" "CycleGroups" "movesMade" "I" ∈ tg := tg_of (List.mem_append_right _ (List.mem_append_left _ (List.mem_of_getElem? (l := tables_1_1) (i := 60) (by rfl)))) rfl
theorem w_62 : Jvm.Cond.laysFinal "CycleGroups" "CycleGroups" "states" "[[I" ∈ tg := tg_of (List.mem_append_right _ (List.mem_append_left _ (List.mem_of_getElem? (l := tables_1_1) (i := 62) (by rfl)))) rfl
theorem w_64 : Jvm.Cond.lays "CycleGroups" "CycleGroups" "statesMade" "I" ∈ tg := tg_of (List.mem_append_right _ (List.mem_append_left _ (List.mem_of_getElem? (l := tables_1_1) (i := 64) (by rfl)))) rfl
theorem w_66 : Jvm.Cond.laysFinal "CycleGroups" "CycleGroups" "partition" "LCycleGroups$Partition;" ∈ tg := tg_of (List.mem_append_right _ (List.mem_append_left _ (List.mem_of_getElem? (l := tables_1_1) (i := 66) (by rfl)))) rfl
theorem w_68 : Jvm.Cond.laysFinal "CycleGroups" "CycleGroups" "decimal" "LCycleGroups$Decimal;" ∈ tg := tg_of (List.mem_append_right _ (List.mem_append_left _ (List.mem_of_getElem? (l := tables_1_1) (i := 68) (by rfl)))) rfl
theorem w_70 : Jvm.Cond.lays "CycleGroups" "CycleGroups" "chain" "LCycleGroups$Chain;" ∈ tg := tg_of (List.mem_append_right _ (List.mem_append_left _ (List.mem_of_getElem? (l := tables_1_1) (i := 70) (by rfl)))) rfl
theorem w_72 : Jvm.Cond.lays "CycleGroups" "CycleGroups" "chainIsStale" "Z" ∈ tg := tg_of (List.mem_append_right _ (List.mem_append_left _ (List.mem_of_getElem? (l := tables_1_1) (i := 72) (by rfl)))) rfl
theorem w_75 : Jvm.Cond.methodLink "CycleGroupsLaw" (21 : Nat) ({ cls := "CycleGroups", name := "move", desc := "()I" } : Jvm.MethodName) ∈ tg := tg_of (List.mem_append_right _ (List.mem_append_left _ (List.mem_of_getElem? (l := tables_1_1) (i := 75) (by rfl)))) rfl
theorem w_76 : Jvm.Cond.instanceMethod ({ cls := "CycleGroups", name := "move", desc := "()I" } : Jvm.MethodName) ∈ tg := tg_of (List.mem_append_right _ (List.mem_append_left _ (List.mem_of_getElem? (l := tables_1_1) (i := 76) (by rfl)))) rfl
theorem w_77 : Jvm.Cond.selects "CycleGroups" ({ cls := "CycleGroups", name := "move", desc := "()I" } : Jvm.MethodName) ({ cls := "CycleGroups", name := "move", desc := "()I" } : Jvm.MethodName) ∈ tg := tg_of (List.mem_append_right _ (List.mem_append_left _ (List.mem_of_getElem? (l := tables_1_1) (i := 77) (by rfl)))) rfl
theorem w_78 : Jvm.Cond.code ({ cls := "CycleGroups", name := "move", desc := "()I" } : Jvm.MethodName) prog_1_method_2_code (1 : Nat) (Option.some Jvm.ClassFile.FieldType.int) ∈ tg := tg_of (List.mem_append_right _ (List.mem_append_left _ (List.mem_of_getElem? (l := tables_1_1) (i := 78) (by rfl)))) rfl
theorem w_79 : Jvm.Cond.methodLink "CycleGroups" (49 : Nat) ({ cls := "CycleGroups", name := "leaveAll", desc := "([I)V" } : Jvm.MethodName) ∈ tg := tg_of (List.mem_append_right _ (List.mem_append_left _ (List.mem_of_getElem? (l := tables_1_1) (i := 79) (by rfl)))) rfl
theorem w_80 : Jvm.Cond.static ({ cls := "CycleGroups", name := "leaveAll", desc := "([I)V" } : Jvm.MethodName) ∈ tg := tg_of (List.mem_append_right _ (List.mem_append_left _ (List.mem_of_getElem? (l := tables_1_1) (i := 80) (by rfl)))) rfl
theorem w_81 : Jvm.Cond.code ({ cls := "CycleGroups", name := "leaveAll", desc := "([I)V" } : Jvm.MethodName) prog_1_method_25_code (2 : Nat) (Option.none : Option Jvm.ClassFile.FieldType) ∈ tg := tg_of (List.mem_append_right _ (List.mem_append_left _ (List.mem_of_getElem? (l := tables_1_1) (i := 81) (by rfl)))) rfl
theorem w_82 : Jvm.Cond.methodLink "CycleGroupsLaw" (26 : Nat) ({ cls := "CycleGroups", name := "cycle", desc := "(III)Z" } : Jvm.MethodName) ∈ tg := tg_of (List.mem_append_right _ (List.mem_append_left _ (List.mem_of_getElem? (l := tables_1_1) (i := 82) (by rfl)))) rfl
theorem w_83 : Jvm.Cond.instanceMethod ({ cls := "CycleGroups", name := "cycle", desc := "(III)Z" } : Jvm.MethodName) ∈ tg := tg_of (List.mem_append_right _ (List.mem_append_left _ (List.mem_of_getElem? (l := tables_1_1) (i := 83) (by rfl)))) rfl
theorem w_84 : Jvm.Cond.selects "CycleGroups" ({ cls := "CycleGroups", name := "cycle", desc := "(III)Z" } : Jvm.MethodName) ({ cls := "CycleGroups", name := "cycle", desc := "(III)Z" } : Jvm.MethodName) ∈ tg := tg_of (List.mem_append_right _ (List.mem_append_left _ (List.mem_of_getElem? (l := tables_1_1) (i := 84) (by rfl)))) rfl
theorem w_85 : Jvm.Cond.code ({ cls := "CycleGroups", name := "cycle", desc := "(III)Z" } : Jvm.MethodName) prog_1_method_3_code (5 : Nat) (Option.some Jvm.ClassFile.FieldType.boolean) ∈ tg := tg_of (List.mem_append_right _ (List.mem_append_left _ (List.mem_of_getElem? (l := tables_1_1) (i := 85) (by rfl)))) rfl
theorem w_86 : Jvm.Cond.methodLink "CycleGroups" (53 : Nat) ({ cls := "CycleGroups", name := "isMove", desc := "(I)Z" } : Jvm.MethodName) ∈ tg := tg_of (List.mem_append_right _ (List.mem_append_left _ (List.mem_of_getElem? (l := tables_1_1) (i := 86) (by rfl)))) rfl
theorem w_88 : Jvm.Cond.instanceMethod ({ cls := "CycleGroups", name := "isMove", desc := "(I)Z" } : Jvm.MethodName) ∈ tg := tg_of (List.mem_append_right _ (List.mem_append_left _ (List.mem_of_getElem? (l := tables_1_1) (i := 88) (by rfl)))) rfl
theorem w_89 : Jvm.Cond.code ({ cls := "CycleGroups", name := "isMove", desc := "(I)Z" } : Jvm.MethodName) prog_1_method_21_code (2 : Nat) (Option.some Jvm.ClassFile.FieldType.boolean) ∈ tg := tg_of (List.mem_append_right _ (List.mem_append_left _ (List.mem_of_getElem? (l := tables_1_1) (i := 89) (by rfl)))) rfl
theorem w_90 : Jvm.Cond.methodLink "CycleGroups" (57 : Nat) ({ cls := "CycleGroups", name := "isPlace", desc := "(I)Z" } : Jvm.MethodName) ∈ tg := tg_of (List.mem_append_right _ (List.mem_append_left _ (List.mem_of_getElem? (l := tables_1_1) (i := 90) (by rfl)))) rfl
theorem w_92 : Jvm.Cond.instanceMethod ({ cls := "CycleGroups", name := "isPlace", desc := "(I)Z" } : Jvm.MethodName) ∈ tg := tg_of (List.mem_append_right _ (List.mem_append_left _ (List.mem_of_getElem? (l := tables_1_1) (i := 92) (by rfl)))) rfl
theorem w_93 : Jvm.Cond.code ({ cls := "CycleGroups", name := "isPlace", desc := "(I)Z" } : Jvm.MethodName) prog_1_method_20_code (2 : Nat) (Option.some Jvm.ClassFile.FieldType.boolean) ∈ tg := tg_of (List.mem_append_right _ (List.mem_append_left _ (List.mem_of_getElem? (l := tables_1_1) (i := 93) (by rfl)))) rfl
theorem w_94 : Jvm.Cond.methodLink "CycleGroupsLaw" (31 : Nat) ({ cls := "CycleGroups", name := "run", desc := "()I" } : Jvm.MethodName) ∈ tg := tg_of (List.mem_append_right _ (List.mem_append_left _ (List.mem_of_getElem? (l := tables_1_1) (i := 94) (by rfl)))) rfl
theorem w_95 : Jvm.Cond.instanceMethod ({ cls := "CycleGroups", name := "run", desc := "()I" } : Jvm.MethodName) ∈ tg := tg_of (List.mem_append_right _ (List.mem_append_left _ (List.mem_of_getElem? (l := tables_1_1) (i := 95) (by rfl)))) rfl
theorem w_96 : Jvm.Cond.selects "CycleGroups" ({ cls := "CycleGroups", name := "run", desc := "()I" } : Jvm.MethodName) ({ cls := "CycleGroups", name := "run", desc := "()I" } : Jvm.MethodName) ∈ tg := tg_of (List.mem_append_right _ (List.mem_append_left _ (List.mem_of_getElem? (l := tables_1_1) (i := 96) (by rfl)))) rfl
theorem w_97 : Jvm.Cond.code ({ cls := "CycleGroups", name := "run", desc := "()I" } : Jvm.MethodName) prog_1_method_4_code (4 : Nat) (Option.some Jvm.ClassFile.FieldType.int) ∈ tg := tg_of (List.mem_append_right _ (List.mem_append_left _ (List.mem_of_getElem? (l := tables_1_1) (i := 97) (by rfl)))) rfl
theorem w_98 : Jvm.Cond.methodLink "CycleGroups" (64 : Nat) ({ cls := "CycleGroups", name := "freshChain", desc := "()LCycleGroups$Chain;" } : Jvm.MethodName) ∈ tg := tg_of (List.mem_append_right _ (List.mem_append_left _ (List.mem_of_getElem? (l := tables_1_1) (i := 98) (by rfl)))) rfl
theorem w_100 : Jvm.Cond.instanceMethod ({ cls := "CycleGroups", name := "freshChain", desc := "()LCycleGroups$Chain;" } : Jvm.MethodName) ∈ tg := tg_of (List.mem_append_right _ (List.mem_append_left _ (List.mem_of_getElem? (l := tables_1_1) (i := 100) (by rfl)))) rfl
theorem w_101 : Jvm.Cond.code ({ cls := "CycleGroups", name := "freshChain", desc := "()LCycleGroups$Chain;" } : Jvm.MethodName) prog_1_method_23_code (1 : Nat) (Option.some (Jvm.ClassFile.FieldType.object "CycleGroups$Chain")) ∈ tg := tg_of (List.mem_append_right _ (List.mem_append_left _ (List.mem_of_getElem? (l := tables_1_1) (i := 101) (by rfl)))) rfl
theorem w_102 : Jvm.Cond.classLink "CycleGroups" (69 : Nat) "CycleGroups$Chain" ∈ tg := tg_of (List.mem_append_right _ (List.mem_append_left _ (List.mem_of_getElem? (l := tables_1_1) (i := 102) (by rfl)))) rfl
theorem w_103 : Jvm.Cond.instantiable "CycleGroups$Chain" (3 : Nat) ∈ tg := tg_of (List.mem_append_right _ (List.mem_append_left _ (List.mem_of_getElem? (l := tables_1_1) (i := 103) (by rfl)))) rfl
theorem w_104 : Jvm.Cond.methodLink "CycleGroups" (134 : Nat) ({ cls := "CycleGroups$Chain", name := "<init>", desc := "(I)V" } : Jvm.MethodName) ∈ tg := tg_of (List.mem_append_right _ (List.mem_append_left _ (List.mem_of_getElem? (l := tables_1_1) (i := 104) (by rfl)))) rfl
theorem w_105 : Jvm.Cond.instanceMethod ({ cls := "CycleGroups$Chain", name := "<init>", desc := "(I)V" } : Jvm.MethodName) ∈ tg := tg_of (List.mem_append_right _ (List.mem_append_left _ (List.mem_of_getElem? (l := tables_1_1) (i := 105) (by rfl)))) rfl
theorem w_106 : Jvm.Cond.code ({ cls := "CycleGroups$Chain", name := "<init>", desc := "(I)V" } : Jvm.MethodName) prog_2_method_1_code (3 : Nat) (Option.none : Option Jvm.ClassFile.FieldType) ∈ tg := tg_of (List.mem_append_right _ (List.mem_append_left _ (List.mem_of_getElem? (l := tables_1_1) (i := 106) (by rfl)))) rfl
theorem w_107 : Jvm.Cond.methodLink "CycleGroups$Chain" (1 : Nat) ({ cls := "java/lang/Object", name := "<init>", desc := "()V" } : Jvm.MethodName) ∈ tg := tg_of (List.mem_append_right _ (List.mem_append_left _ (List.mem_of_getElem? (l := tables_1_1) (i := 107) (by rfl)))) rfl
theorem w_108 : Jvm.Cond.classLink "CycleGroups$Chain" (13 : Nat) "CycleGroups$Link" ∈ tg := tg_of (List.mem_append_right _ (List.mem_append_left _ (List.mem_of_getElem? (l := tables_1_1) (i := 108) (by rfl)))) rfl
theorem w_109 : Jvm.Cond.arrayOver (Jvm.ClassFile.FieldType.object "CycleGroups$Link") ∈ lw_tbl := List.mem_append_right _ (List.mem_append_left _ (List.mem_of_getElem? (l := tables_1_1) (i := 109) (by rfl)))
theorem w_110 : Jvm.Cond.instantiable "CycleGroups$Link" (7 : Nat) ∈ tg := tg_of (List.mem_append_right _ (List.mem_append_left _ (List.mem_of_getElem? (l := tables_1_1) (i := 110) (by rfl)))) rfl
theorem w_111 : Jvm.Cond.methodLink "CycleGroups$Chain" (23 : Nat) ({ cls := "CycleGroups$Link", name := "<init>", desc := "(II)V" } : Jvm.MethodName) ∈ tg := tg_of (List.mem_append_right _ (List.mem_append_left _ (List.mem_of_getElem? (l := tables_1_1) (i := 111) (by rfl)))) rfl
theorem w_112 : Jvm.Cond.instanceMethod ({ cls := "CycleGroups$Link", name := "<init>", desc := "(II)V" } : Jvm.MethodName) ∈ tg := tg_of (List.mem_append_right _ (List.mem_append_left _ (List.mem_of_getElem? (l := tables_1_1) (i := 112) (by rfl)))) rfl
theorem w_113 : Jvm.Cond.code ({ cls := "CycleGroups$Link", name := "<init>", desc := "(II)V" } : Jvm.MethodName) prog_4_method_1_code (5 : Nat) (Option.none : Option Jvm.ClassFile.FieldType) ∈ tg := tg_of (List.mem_append_right _ (List.mem_append_left _ (List.mem_of_getElem? (l := tables_1_1) (i := 113) (by rfl)))) rfl
theorem w_114 : Jvm.Cond.methodLink "CycleGroups$Link" (1 : Nat) ({ cls := "java/lang/Object", name := "<init>", desc := "()V" } : Jvm.MethodName) ∈ tg := tg_of (List.mem_append_right _ (List.mem_append_left _ (List.mem_of_getElem? (l := tables_1_1) (i := 114) (by rfl)))) rfl
theorem w_115 : Jvm.Cond.classLink "CycleGroups$Link" (7 : Nat) "[[I" ∈ tg := tg_of (List.mem_append_right _ (List.mem_append_left _ (List.mem_of_getElem? (l := tables_1_1) (i := 115) (by rfl)))) rfl
theorem w_116 : Jvm.Cond.methodLink "CycleGroups$Link" (27 : Nat) ({ cls := "java/util/Arrays", name := "fill", desc := "([II)V" } : Jvm.MethodName) ∈ tg := tg_of (List.mem_append_right _ (List.mem_append_left _ (List.mem_of_getElem? (l := tables_1_1) (i := 116) (by rfl)))) rfl
theorem w_117 : Jvm.Cond.static ({ cls := "java/util/Arrays", name := "fill", desc := "([II)V" } : Jvm.MethodName) ∈ tg := tg_of (List.mem_append_right _ (List.mem_append_left _ (List.mem_of_getElem? (l := tables_1_1) (i := 117) (by rfl)))) rfl
theorem w_118 : Jvm.Cond.code ({ cls := "java/util/Arrays", name := "fill", desc := "([II)V" } : Jvm.MethodName) prog_10_method_103_code (4 : Nat) (Option.none : Option Jvm.ClassFile.FieldType) ∈ tg := tg_of (List.mem_append_right _ (List.mem_append_left _ (List.mem_of_getElem? (l := tables_1_1) (i := 118) (by rfl)))) rfl
theorem w_119 : Jvm.Cond.methodLinkNest "CycleGroups$Link" (37 : Nat) ({ cls := "CycleGroups", name := "leaveAll", desc := "([I)V" } : Jvm.MethodName) "CycleGroups" ∈ lw_tbl := List.mem_append_right _ (List.mem_append_left _ (List.mem_of_getElem? (l := tables_1_1) (i := 119) (by rfl)))
theorem w_120 : Jvm.Cond.fieldLink "CycleGroups$Link" (9 : Nat) "CycleGroups$Link" "generators" "[[I" ∈ tg := tg_of (List.mem_append_right _ (List.mem_append_left _ (List.mem_of_getElem? (l := tables_1_1) (i := 120) (by rfl)))) rfl
theorem w_121 : Jvm.Cond.fieldLink "CycleGroups$Link" (43 : Nat) "CycleGroups$Link" "generatorsHeld" "I" ∈ tg := tg_of (List.mem_append_right _ (List.mem_append_left _ (List.mem_of_getElem? (l := tables_1_1) (i := 121) (by rfl)))) rfl
theorem w_122 : Jvm.Cond.fieldLink "CycleGroups$Link" (14 : Nat) "CycleGroups$Link" "paired" "[I" ∈ tg := tg_of (List.mem_append_right _ (List.mem_append_left _ (List.mem_of_getElem? (l := tables_1_1) (i := 122) (by rfl)))) rfl
theorem w_123 : Jvm.Cond.fieldLink "CycleGroups$Link" (18 : Nat) "CycleGroups$Link" "spreadPlaces" "[I" ∈ tg := tg_of (List.mem_append_right _ (List.mem_append_left _ (List.mem_of_getElem? (l := tables_1_1) (i := 123) (by rfl)))) rfl
theorem w_124 : Jvm.Cond.fieldLink "CycleGroups$Link" (33 : Nat) "CycleGroups$Link" "spreadHeld" "I" ∈ tg := tg_of (List.mem_append_right _ (List.mem_append_left _ (List.mem_of_getElem? (l := tables_1_1) (i := 124) (by rfl)))) rfl
theorem w_125 : Jvm.Cond.fieldLink "CycleGroups$Link" (21 : Nat) "CycleGroups$Link" "indexInSpread" "[I" ∈ tg := tg_of (List.mem_append_right _ (List.mem_append_left _ (List.mem_of_getElem? (l := tables_1_1) (i := 125) (by rfl)))) rfl
theorem w_126 : Jvm.Cond.fieldLink "CycleGroups$Link" (24 : Nat) "CycleGroups$Link" "waysBack" "[[I" ∈ tg := tg_of (List.mem_append_right _ (List.mem_append_left _ (List.mem_of_getElem? (l := tables_1_1) (i := 126) (by rfl)))) rfl
theorem w_127 : Jvm.Cond.laysFinal "CycleGroups$Link" "CycleGroups$Link" "generators" "[[I" ∈ tg := tg_of (List.mem_append_right _ (List.mem_append_left _ (List.mem_of_getElem? (l := tables_1_1) (i := 127) (by rfl)))) rfl
theorem w_129 : Jvm.Cond.lays "CycleGroups$Link" "CycleGroups$Link" "generatorsHeld" "I" ∈ tg := tg_of (List.mem_append_right _ (List.mem_append_left _ (List.mem_of_getElem? (l := tables_1_1) (i := 129) (by rfl)))) rfl
theorem w_131 : Jvm.Cond.laysFinal "CycleGroups$Link" "CycleGroups$Link" "paired" "[I" ∈ tg := tg_of (List.mem_append_right _ (List.mem_append_left _ (List.mem_of_getElem? (l := tables_1_1) (i := 131) (by rfl)))) rfl
theorem w_133 : Jvm.Cond.laysFinal "CycleGroups$Link" "CycleGroups$Link" "spreadPlaces" "[I" ∈ tg := tg_of (List.mem_append_right _ (List.mem_append_left _ (List.mem_of_getElem? (l := tables_1_1) (i := 133) (by rfl)))) rfl
theorem w_135 : Jvm.Cond.lays "CycleGroups$Link" "CycleGroups$Link" "spreadHeld" "I" ∈ tg := tg_of (List.mem_append_right _ (List.mem_append_left _ (List.mem_of_getElem? (l := tables_1_1) (i := 135) (by rfl)))) rfl
theorem w_137 : Jvm.Cond.laysFinal "CycleGroups$Link" "CycleGroups$Link" "indexInSpread" "[I" ∈ tg := tg_of (List.mem_append_right _ (List.mem_append_left _ (List.mem_of_getElem? (l := tables_1_1) (i := 137) (by rfl)))) rfl
theorem w_139 : Jvm.Cond.laysFinal "CycleGroups$Link" "CycleGroups$Link" "waysBack" "[[I" ∈ tg := tg_of (List.mem_append_right _ (List.mem_append_left _ (List.mem_of_getElem? (l := tables_1_1) (i := 139) (by rfl)))) rfl
theorem w_142 : Jvm.Cond.fieldLink "CycleGroups$Chain" (7 : Nat) "CycleGroups$Chain" "places" "I" ∈ tg := tg_of (List.mem_append_right _ (List.mem_append_left _ (List.mem_of_getElem? (l := tables_1_1) (i := 142) (by rfl)))) rfl
theorem w_143 : Jvm.Cond.fieldLink "CycleGroups$Chain" (15 : Nat) "CycleGroups$Chain" "links" "[LCycleGroups$Link;" ∈ tg := tg_of (List.mem_append_right _ (List.mem_append_left _ (List.mem_of_getElem? (l := tables_1_1) (i := 143) (by rfl)))) rfl
theorem w_144 : Jvm.Cond.fieldLink "CycleGroups$Chain" (19 : Nat) "CycleGroups$Chain" "work" "[I" ∈ tg := tg_of (List.mem_append_right _ (List.mem_append_left _ (List.mem_of_getElem? (l := tables_1_1) (i := 144) (by rfl)))) rfl
theorem w_145 : Jvm.Cond.laysFinal "CycleGroups$Chain" "CycleGroups$Chain" "places" "I" ∈ tg := tg_of (List.mem_append_right _ (List.mem_append_left _ (List.mem_of_getElem? (l := tables_1_1) (i := 145) (by rfl)))) rfl
theorem w_147 : Jvm.Cond.laysFinal "CycleGroups$Chain" "CycleGroups$Chain" "links" "[LCycleGroups$Link;" ∈ tg := tg_of (List.mem_append_right _ (List.mem_append_left _ (List.mem_of_getElem? (l := tables_1_1) (i := 147) (by rfl)))) rfl
theorem w_149 : Jvm.Cond.laysFinal "CycleGroups$Chain" "CycleGroups$Chain" "work" "[I" ∈ tg := tg_of (List.mem_append_right _ (List.mem_append_left _ (List.mem_of_getElem? (l := tables_1_1) (i := 149) (by rfl)))) rfl
theorem w_152 : Jvm.Cond.methodLink "CycleGroups" (135 : Nat) ({ cls := "CycleGroups$Chain", name := "build", desc := "([[II)V" } : Jvm.MethodName) ∈ tg := tg_of (List.mem_append_right _ (List.mem_append_left _ (List.mem_of_getElem? (l := tables_1_1) (i := 152) (by rfl)))) rfl
theorem w_153 : Jvm.Cond.instanceMethod ({ cls := "CycleGroups$Chain", name := "build", desc := "([[II)V" } : Jvm.MethodName) ∈ tg := tg_of (List.mem_append_right _ (List.mem_append_left _ (List.mem_of_getElem? (l := tables_1_1) (i := 153) (by rfl)))) rfl
theorem w_154 : Jvm.Cond.selects "CycleGroups$Chain" ({ cls := "CycleGroups$Chain", name := "build", desc := "([[II)V" } : Jvm.MethodName) ({ cls := "CycleGroups$Chain", name := "build", desc := "([[II)V" } : Jvm.MethodName) ∈ tg := tg_of (List.mem_append_right _ (List.mem_append_left _ (List.mem_of_getElem? (l := tables_1_1) (i := 154) (by rfl)))) rfl
theorem w_155 : Jvm.Cond.code ({ cls := "CycleGroups$Chain", name := "build", desc := "([[II)V" } : Jvm.MethodName) prog_2_method_2_code (4 : Nat) (Option.none : Option Jvm.ClassFile.FieldType) ∈ tg := tg_of (List.mem_append_right _ (List.mem_append_left _ (List.mem_of_getElem? (l := tables_1_1) (i := 155) (by rfl)))) rfl
theorem w_156 : Jvm.Cond.methodLink "CycleGroups$Chain" (26 : Nat) ({ cls := "CycleGroups$Link", name := "clear", desc := "()V" } : Jvm.MethodName) ∈ tg := tg_of (List.mem_append_right _ (List.mem_append_left _ (List.mem_of_getElem? (l := tables_1_1) (i := 156) (by rfl)))) rfl
theorem w_157 : Jvm.Cond.instanceMethod ({ cls := "CycleGroups$Link", name := "clear", desc := "()V" } : Jvm.MethodName) ∈ tg := tg_of (List.mem_append_right _ (List.mem_append_left _ (List.mem_of_getElem? (l := tables_1_1) (i := 157) (by rfl)))) rfl
theorem w_158 : Jvm.Cond.selects "CycleGroups$Link" ({ cls := "CycleGroups$Link", name := "clear", desc := "()V" } : Jvm.MethodName) ({ cls := "CycleGroups$Link", name := "clear", desc := "()V" } : Jvm.MethodName) ∈ tg := tg_of (List.mem_append_right _ (List.mem_append_left _ (List.mem_of_getElem? (l := tables_1_1) (i := 158) (by rfl)))) rfl
theorem w_159 : Jvm.Cond.code ({ cls := "CycleGroups$Link", name := "clear", desc := "()V" } : Jvm.MethodName) prog_4_method_2_code (2 : Nat) (Option.none : Option Jvm.ClassFile.FieldType) ∈ tg := tg_of (List.mem_append_right _ (List.mem_append_left _ (List.mem_of_getElem? (l := tables_1_1) (i := 159) (by rfl)))) rfl
theorem w_160 : Jvm.Cond.methodLink "CycleGroups$Chain" (29 : Nat) ({ cls := "CycleGroups$Chain", name := "failingPlace", desc := "([I)I" } : Jvm.MethodName) ∈ tg := tg_of (List.mem_append_right _ (List.mem_append_left _ (List.mem_of_getElem? (l := tables_1_1) (i := 160) (by rfl)))) rfl
theorem w_161 : Jvm.Cond.instanceMethod ({ cls := "CycleGroups$Chain", name := "failingPlace", desc := "([I)I" } : Jvm.MethodName) ∈ tg := tg_of (List.mem_append_right _ (List.mem_append_left _ (List.mem_of_getElem? (l := tables_1_1) (i := 161) (by rfl)))) rfl
theorem w_162 : Jvm.Cond.selects "CycleGroups$Chain" ({ cls := "CycleGroups$Chain", name := "failingPlace", desc := "([I)I" } : Jvm.MethodName) ({ cls := "CycleGroups$Chain", name := "failingPlace", desc := "([I)I" } : Jvm.MethodName) ∈ tg := tg_of (List.mem_append_right _ (List.mem_append_left _ (List.mem_of_getElem? (l := tables_1_1) (i := 162) (by rfl)))) rfl
theorem w_163 : Jvm.Cond.code ({ cls := "CycleGroups$Chain", name := "failingPlace", desc := "([I)I" } : Jvm.MethodName) prog_2_method_4_code (2 : Nat) (Option.some Jvm.ClassFile.FieldType.int) ∈ tg := tg_of (List.mem_append_right _ (List.mem_append_left _ (List.mem_of_getElem? (l := tables_1_1) (i := 163) (by rfl)))) rfl
theorem w_164 : Jvm.Cond.methodLink "CycleGroups$Chain" (44 : Nat) ({ cls := "java/lang/System", name := "arraycopy", desc := "(Ljava/lang/Object;ILjava/lang/Object;II)V" } : Jvm.MethodName) ∈ tg := tg_of (List.mem_append_right _ (List.mem_append_left _ (List.mem_of_getElem? (l := tables_1_1) (i := 164) (by rfl)))) rfl
theorem w_165 : Jvm.Cond.static ({ cls := "java/lang/System", name := "arraycopy", desc := "(Ljava/lang/Object;ILjava/lang/Object;II)V" } : Jvm.MethodName) ∈ tg := tg_of (List.mem_append_right _ (List.mem_append_left _ (List.mem_of_getElem? (l := tables_1_1) (i := 165) (by rfl)))) rfl
theorem w_166 : Jvm.Cond.native ({ cls := "java/lang/System", name := "arraycopy", desc := "(Ljava/lang/Object;ILjava/lang/Object;II)V" } : Jvm.MethodName) ∈ tg := tg_of (List.mem_append_right _ (List.mem_append_left _ (List.mem_of_getElem? (l := tables_1_1) (i := 166) (by rfl)))) rfl
theorem w_167 : Jvm.Cond.methodLink "CycleGroups$Chain" (50 : Nat) ({ cls := "CycleGroups$Chain", name := "siftWork", desc := "(I)I" } : Jvm.MethodName) ∈ tg := tg_of (List.mem_append_right _ (List.mem_append_left _ (List.mem_of_getElem? (l := tables_1_1) (i := 167) (by rfl)))) rfl
theorem w_169 : Jvm.Cond.instanceMethod ({ cls := "CycleGroups$Chain", name := "siftWork", desc := "(I)I" } : Jvm.MethodName) ∈ tg := tg_of (List.mem_append_right _ (List.mem_append_left _ (List.mem_of_getElem? (l := tables_1_1) (i := 169) (by rfl)))) rfl
theorem w_170 : Jvm.Cond.code ({ cls := "CycleGroups$Chain", name := "siftWork", desc := "(I)I" } : Jvm.MethodName) prog_2_method_5_code (3 : Nat) (Option.some Jvm.ClassFile.FieldType.int) ∈ tg := tg_of (List.mem_append_right _ (List.mem_append_left _ (List.mem_of_getElem? (l := tables_1_1) (i := 170) (by rfl)))) rfl
theorem w_171 : Jvm.Cond.methodLink "CycleGroups$Chain" (54 : Nat) ({ cls := "CycleGroups$Link", name := "undo", desc := "([I)Z" } : Jvm.MethodName) ∈ tg := tg_of (List.mem_append_right _ (List.mem_append_left _ (List.mem_of_getElem? (l := tables_1_1) (i := 171) (by rfl)))) rfl
theorem w_172 : Jvm.Cond.instanceMethod ({ cls := "CycleGroups$Link", name := "undo", desc := "([I)Z" } : Jvm.MethodName) ∈ tg := tg_of (List.mem_append_right _ (List.mem_append_left _ (List.mem_of_getElem? (l := tables_1_1) (i := 172) (by rfl)))) rfl
theorem w_173 : Jvm.Cond.selects "CycleGroups$Link" ({ cls := "CycleGroups$Link", name := "undo", desc := "([I)Z" } : Jvm.MethodName) ({ cls := "CycleGroups$Link", name := "undo", desc := "([I)Z" } : Jvm.MethodName) ∈ tg := tg_of (List.mem_append_right _ (List.mem_append_left _ (List.mem_of_getElem? (l := tables_1_1) (i := 173) (by rfl)))) rfl
theorem w_174 : Jvm.Cond.code ({ cls := "CycleGroups$Link", name := "undo", desc := "([I)Z" } : Jvm.MethodName) prog_4_method_4_code (6 : Nat) (Option.some Jvm.ClassFile.FieldType.boolean) ∈ tg := tg_of (List.mem_append_right _ (List.mem_append_left _ (List.mem_of_getElem? (l := tables_1_1) (i := 174) (by rfl)))) rfl
theorem w_175 : Jvm.Cond.methodLink "CycleGroups$Chain" (33 : Nat) ({ cls := "CycleGroups$Link", name := "addGenerator", desc := "([I)V" } : Jvm.MethodName) ∈ tg := tg_of (List.mem_append_right _ (List.mem_append_left _ (List.mem_of_getElem? (l := tables_1_1) (i := 175) (by rfl)))) rfl
theorem w_176 : Jvm.Cond.instanceMethod ({ cls := "CycleGroups$Link", name := "addGenerator", desc := "([I)V" } : Jvm.MethodName) ∈ tg := tg_of (List.mem_append_right _ (List.mem_append_left _ (List.mem_of_getElem? (l := tables_1_1) (i := 176) (by rfl)))) rfl
theorem w_177 : Jvm.Cond.selects "CycleGroups$Link" ({ cls := "CycleGroups$Link", name := "addGenerator", desc := "([I)V" } : Jvm.MethodName) ({ cls := "CycleGroups$Link", name := "addGenerator", desc := "([I)V" } : Jvm.MethodName) ∈ tg := tg_of (List.mem_append_right _ (List.mem_append_left _ (List.mem_of_getElem? (l := tables_1_1) (i := 177) (by rfl)))) rfl
theorem w_178 : Jvm.Cond.code ({ cls := "CycleGroups$Link", name := "addGenerator", desc := "([I)V" } : Jvm.MethodName) prog_4_method_5_code (2 : Nat) (Option.none : Option Jvm.ClassFile.FieldType) ∈ tg := tg_of (List.mem_append_right _ (List.mem_append_left _ (List.mem_of_getElem? (l := tables_1_1) (i := 178) (by rfl)))) rfl
theorem w_179 : Jvm.Cond.methodLink "CycleGroups$Link" (46 : Nat) ({ cls := "java/lang/System", name := "arraycopy", desc := "(Ljava/lang/Object;ILjava/lang/Object;II)V" } : Jvm.MethodName) ∈ tg := tg_of (List.mem_append_right _ (List.mem_append_left _ (List.mem_of_getElem? (l := tables_1_1) (i := 179) (by rfl)))) rfl
theorem w_180 : Jvm.Cond.methodLink "CycleGroups$Chain" (37 : Nat) ({ cls := "CycleGroups$Chain", name := "complete", desc := "()V" } : Jvm.MethodName) ∈ tg := tg_of (List.mem_append_right _ (List.mem_append_left _ (List.mem_of_getElem? (l := tables_1_1) (i := 180) (by rfl)))) rfl
theorem w_182 : Jvm.Cond.instanceMethod ({ cls := "CycleGroups$Chain", name := "complete", desc := "()V" } : Jvm.MethodName) ∈ tg := tg_of (List.mem_append_right _ (List.mem_append_left _ (List.mem_of_getElem? (l := tables_1_1) (i := 182) (by rfl)))) rfl
theorem w_183 : Jvm.Cond.code ({ cls := "CycleGroups$Chain", name := "complete", desc := "()V" } : Jvm.MethodName) prog_2_method_6_code (3 : Nat) (Option.none : Option Jvm.ClassFile.FieldType) ∈ tg := tg_of (List.mem_append_right _ (List.mem_append_left _ (List.mem_of_getElem? (l := tables_1_1) (i := 183) (by rfl)))) rfl
theorem w_184 : Jvm.Cond.constant "CycleGroups$Chain" (58 : Nat) (1000000 : Int32) ∈ tg := tg_of (List.mem_append_right _ (List.mem_append_left _ (List.mem_of_getElem? (l := tables_1_1) (i := 184) (by rfl)))) rfl
theorem w_185 : Jvm.Cond.methodLink "CycleGroups$Chain" (59 : Nat) ({ cls := "CycleGroups$Chain", name := "advance", desc := "(I)I" } : Jvm.MethodName) ∈ tg := tg_of (List.mem_append_right _ (List.mem_append_left _ (List.mem_of_getElem? (l := tables_1_1) (i := 185) (by rfl)))) rfl
theorem w_187 : Jvm.Cond.instanceMethod ({ cls := "CycleGroups$Chain", name := "advance", desc := "(I)I" } : Jvm.MethodName) ∈ tg := tg_of (List.mem_append_right _ (List.mem_append_left _ (List.mem_of_getElem? (l := tables_1_1) (i := 187) (by rfl)))) rfl
theorem w_188 : Jvm.Cond.code ({ cls := "CycleGroups$Chain", name := "advance", desc := "(I)I" } : Jvm.MethodName) prog_2_method_7_code (5 : Nat) (Option.some Jvm.ClassFile.FieldType.int) ∈ tg := tg_of (List.mem_append_right _ (List.mem_append_left _ (List.mem_of_getElem? (l := tables_1_1) (i := 188) (by rfl)))) rfl
theorem w_189 : Jvm.Cond.methodLink "CycleGroups$Chain" (62 : Nat) ({ cls := "CycleGroups$Link", name := "openGenerator", desc := "()I" } : Jvm.MethodName) ∈ tg := tg_of (List.mem_append_right _ (List.mem_append_left _ (List.mem_of_getElem? (l := tables_1_1) (i := 189) (by rfl)))) rfl
theorem w_190 : Jvm.Cond.instanceMethod ({ cls := "CycleGroups$Link", name := "openGenerator", desc := "()I" } : Jvm.MethodName) ∈ tg := tg_of (List.mem_append_right _ (List.mem_append_left _ (List.mem_of_getElem? (l := tables_1_1) (i := 190) (by rfl)))) rfl
theorem w_191 : Jvm.Cond.selects "CycleGroups$Link" ({ cls := "CycleGroups$Link", name := "openGenerator", desc := "()I" } : Jvm.MethodName) ({ cls := "CycleGroups$Link", name := "openGenerator", desc := "()I" } : Jvm.MethodName) ∈ tg := tg_of (List.mem_append_right _ (List.mem_append_left _ (List.mem_of_getElem? (l := tables_1_1) (i := 191) (by rfl)))) rfl
theorem w_192 : Jvm.Cond.code ({ cls := "CycleGroups$Link", name := "openGenerator", desc := "()I" } : Jvm.MethodName) prog_4_method_6_code (2 : Nat) (Option.some Jvm.ClassFile.FieldType.int) ∈ tg := tg_of (List.mem_append_right _ (List.mem_append_left _ (List.mem_of_getElem? (l := tables_1_1) (i := 192) (by rfl)))) rfl
theorem w_193 : Jvm.Cond.methodLink "CycleGroups$Chain" (65 : Nat) ({ cls := "CycleGroups$Link", name := "reachesNewPlace", desc := "(I[I)Z" } : Jvm.MethodName) ∈ tg := tg_of (List.mem_append_right _ (List.mem_append_left _ (List.mem_of_getElem? (l := tables_1_1) (i := 193) (by rfl)))) rfl
theorem w_194 : Jvm.Cond.instanceMethod ({ cls := "CycleGroups$Link", name := "reachesNewPlace", desc := "(I[I)Z" } : Jvm.MethodName) ∈ tg := tg_of (List.mem_append_right _ (List.mem_append_left _ (List.mem_of_getElem? (l := tables_1_1) (i := 194) (by rfl)))) rfl
theorem w_195 : Jvm.Cond.selects "CycleGroups$Link" ({ cls := "CycleGroups$Link", name := "reachesNewPlace", desc := "(I[I)Z" } : Jvm.MethodName) ({ cls := "CycleGroups$Link", name := "reachesNewPlace", desc := "(I[I)Z" } : Jvm.MethodName) ∈ tg := tg_of (List.mem_append_right _ (List.mem_append_left _ (List.mem_of_getElem? (l := tables_1_1) (i := 195) (by rfl)))) rfl
theorem w_196 : Jvm.Cond.code ({ cls := "CycleGroups$Link", name := "reachesNewPlace", desc := "(I[I)Z" } : Jvm.MethodName) prog_4_method_7_code (9 : Nat) (Option.some Jvm.ClassFile.FieldType.boolean) ∈ tg := tg_of (List.mem_append_right _ (List.mem_append_left _ (List.mem_of_getElem? (l := tables_1_1) (i := 196) (by rfl)))) rfl
theorem w_197 : Jvm.Cond.methodLink "CycleGroups$Link" (52 : Nat) ({ cls := "CycleGroups$Link", name := "widen", desc := "(I[I[I)V" } : Jvm.MethodName) ∈ tg := tg_of (List.mem_append_right _ (List.mem_append_left _ (List.mem_of_getElem? (l := tables_1_1) (i := 197) (by rfl)))) rfl
theorem w_199 : Jvm.Cond.instanceMethod ({ cls := "CycleGroups$Link", name := "widen", desc := "(I[I[I)V" } : Jvm.MethodName) ∈ tg := tg_of (List.mem_append_right _ (List.mem_append_left _ (List.mem_of_getElem? (l := tables_1_1) (i := 199) (by rfl)))) rfl
theorem w_200 : Jvm.Cond.code ({ cls := "CycleGroups$Link", name := "widen", desc := "(I[I[I)V" } : Jvm.MethodName) prog_4_method_8_code (6 : Nat) (Option.none : Option Jvm.ClassFile.FieldType) ∈ tg := tg_of (List.mem_append_right _ (List.mem_append_left _ (List.mem_of_getElem? (l := tables_1_1) (i := 200) (by rfl)))) rfl
theorem w_201 : Jvm.Cond.methodLink "CycleGroups" (68 : Nat) ({ cls := "CycleGroups$Chain", name := "spreadSize", desc := "(I)I" } : Jvm.MethodName) ∈ tg := tg_of (List.mem_append_right _ (List.mem_append_left _ (List.mem_of_getElem? (l := tables_1_1) (i := 201) (by rfl)))) rfl
theorem w_202 : Jvm.Cond.instanceMethod ({ cls := "CycleGroups$Chain", name := "spreadSize", desc := "(I)I" } : Jvm.MethodName) ∈ tg := tg_of (List.mem_append_right _ (List.mem_append_left _ (List.mem_of_getElem? (l := tables_1_1) (i := 202) (by rfl)))) rfl
theorem w_203 : Jvm.Cond.selects "CycleGroups$Chain" ({ cls := "CycleGroups$Chain", name := "spreadSize", desc := "(I)I" } : Jvm.MethodName) ({ cls := "CycleGroups$Chain", name := "spreadSize", desc := "(I)I" } : Jvm.MethodName) ∈ tg := tg_of (List.mem_append_right _ (List.mem_append_left _ (List.mem_of_getElem? (l := tables_1_1) (i := 203) (by rfl)))) rfl
theorem w_204 : Jvm.Cond.code ({ cls := "CycleGroups$Chain", name := "spreadSize", desc := "(I)I" } : Jvm.MethodName) prog_2_method_3_code (2 : Nat) (Option.some Jvm.ClassFile.FieldType.int) ∈ tg := tg_of (List.mem_append_right _ (List.mem_append_left _ (List.mem_of_getElem? (l := tables_1_1) (i := 204) (by rfl)))) rfl
theorem w_205 : Jvm.Cond.methodLink "CycleGroups$Chain" (40 : Nat) ({ cls := "CycleGroups$Link", name := "spreadSize", desc := "()I" } : Jvm.MethodName) ∈ tg := tg_of (List.mem_append_right _ (List.mem_append_left _ (List.mem_of_getElem? (l := tables_1_1) (i := 205) (by rfl)))) rfl
theorem w_206 : Jvm.Cond.instanceMethod ({ cls := "CycleGroups$Link", name := "spreadSize", desc := "()I" } : Jvm.MethodName) ∈ tg := tg_of (List.mem_append_right _ (List.mem_append_left _ (List.mem_of_getElem? (l := tables_1_1) (i := 206) (by rfl)))) rfl
theorem w_207 : Jvm.Cond.selects "CycleGroups$Link" ({ cls := "CycleGroups$Link", name := "spreadSize", desc := "()I" } : Jvm.MethodName) ({ cls := "CycleGroups$Link", name := "spreadSize", desc := "()I" } : Jvm.MethodName) ∈ tg := tg_of (List.mem_append_right _ (List.mem_append_left _ (List.mem_of_getElem? (l := tables_1_1) (i := 207) (by rfl)))) rfl
theorem w_208 : Jvm.Cond.code ({ cls := "CycleGroups$Link", name := "spreadSize", desc := "()I" } : Jvm.MethodName) prog_4_method_3_code (1 : Nat) (Option.some Jvm.ClassFile.FieldType.int) ∈ tg := tg_of (List.mem_append_right _ (List.mem_append_left _ (List.mem_of_getElem? (l := tables_1_1) (i := 208) (by rfl)))) rfl
theorem w_209 : Jvm.Cond.methodLink "CycleGroupsLaw" (35 : Nat) ({ cls := "CycleGroups", name := "base", desc := "(I)I" } : Jvm.MethodName) ∈ tg := tg_of (List.mem_append_right _ (List.mem_append_left _ (List.mem_of_getElem? (l := tables_1_1) (i := 209) (by rfl)))) rfl
theorem w_210 : Jvm.Cond.instanceMethod ({ cls := "CycleGroups", name := "base", desc := "(I)I" } : Jvm.MethodName) ∈ tg := tg_of (List.mem_append_right _ (List.mem_append_left _ (List.mem_of_getElem? (l := tables_1_1) (i := 210) (by rfl)))) rfl
theorem w_211 : Jvm.Cond.selects "CycleGroups" ({ cls := "CycleGroups", name := "base", desc := "(I)I" } : Jvm.MethodName) ({ cls := "CycleGroups", name := "base", desc := "(I)I" } : Jvm.MethodName) ∈ tg := tg_of (List.mem_append_right _ (List.mem_append_left _ (List.mem_of_getElem? (l := tables_1_1) (i := 211) (by rfl)))) rfl
theorem w_212 : Jvm.Cond.code ({ cls := "CycleGroups", name := "base", desc := "(I)I" } : Jvm.MethodName) prog_1_method_5_code (5 : Nat) (Option.some Jvm.ClassFile.FieldType.int) ∈ tg := tg_of (List.mem_append_right _ (List.mem_append_left _ (List.mem_of_getElem? (l := tables_1_1) (i := 212) (by rfl)))) rfl
theorem w_213 : Jvm.Cond.methodLink "CycleGroupsLaw" (40 : Nat) ({ cls := "CycleGroups", name := "spread", desc := "(I)I" } : Jvm.MethodName) ∈ tg := tg_of (List.mem_append_right _ (List.mem_append_left _ (List.mem_of_getElem? (l := tables_1_1) (i := 213) (by rfl)))) rfl
theorem w_214 : Jvm.Cond.instanceMethod ({ cls := "CycleGroups", name := "spread", desc := "(I)I" } : Jvm.MethodName) ∈ tg := tg_of (List.mem_append_right _ (List.mem_append_left _ (List.mem_of_getElem? (l := tables_1_1) (i := 214) (by rfl)))) rfl
theorem w_215 : Jvm.Cond.selects "CycleGroups" ({ cls := "CycleGroups", name := "spread", desc := "(I)I" } : Jvm.MethodName) ({ cls := "CycleGroups", name := "spread", desc := "(I)I" } : Jvm.MethodName) ∈ tg := tg_of (List.mem_append_right _ (List.mem_append_left _ (List.mem_of_getElem? (l := tables_1_1) (i := 215) (by rfl)))) rfl
theorem w_216 : Jvm.Cond.code ({ cls := "CycleGroups", name := "spread", desc := "(I)I" } : Jvm.MethodName) prog_1_method_6_code (2 : Nat) (Option.some Jvm.ClassFile.FieldType.int) ∈ tg := tg_of (List.mem_append_right _ (List.mem_append_left _ (List.mem_of_getElem? (l := tables_1_1) (i := 216) (by rfl)))) rfl
theorem w_217 : Jvm.Cond.methodLink "CycleGroupsLaw" (44 : Nat) ({ cls := "CycleGroups", name := "order", desc := "(I)I" } : Jvm.MethodName) ∈ tg := tg_of (List.mem_append_right _ (List.mem_append_left _ (List.mem_of_getElem? (l := tables_1_1) (i := 217) (by rfl)))) rfl
theorem w_218 : Jvm.Cond.instanceMethod ({ cls := "CycleGroups", name := "order", desc := "(I)I" } : Jvm.MethodName) ∈ tg := tg_of (List.mem_append_right _ (List.mem_append_left _ (List.mem_of_getElem? (l := tables_1_1) (i := 218) (by rfl)))) rfl
theorem w_219 : Jvm.Cond.selects "CycleGroups" ({ cls := "CycleGroups", name := "order", desc := "(I)I" } : Jvm.MethodName) ({ cls := "CycleGroups", name := "order", desc := "(I)I" } : Jvm.MethodName) ∈ tg := tg_of (List.mem_append_right _ (List.mem_append_left _ (List.mem_of_getElem? (l := tables_1_1) (i := 219) (by rfl)))) rfl
theorem w_220 : Jvm.Cond.code ({ cls := "CycleGroups", name := "order", desc := "(I)I" } : Jvm.MethodName) prog_1_method_7_code (2 : Nat) (Option.some Jvm.ClassFile.FieldType.int) ∈ tg := tg_of (List.mem_append_right _ (List.mem_append_left _ (List.mem_of_getElem? (l := tables_1_1) (i := 220) (by rfl)))) rfl
theorem w_221 : Jvm.Cond.methodLink "CycleGroups" (74 : Nat) ({ cls := "CycleGroups", name := "countGroup", desc := "(LCycleGroups$Chain;)V" } : Jvm.MethodName) ∈ tg := tg_of (List.mem_append_right _ (List.mem_append_left _ (List.mem_of_getElem? (l := tables_1_1) (i := 221) (by rfl)))) rfl
theorem w_223 : Jvm.Cond.instanceMethod ({ cls := "CycleGroups", name := "countGroup", desc := "(LCycleGroups$Chain;)V" } : Jvm.MethodName) ∈ tg := tg_of (List.mem_append_right _ (List.mem_append_left _ (List.mem_of_getElem? (l := tables_1_1) (i := 223) (by rfl)))) rfl
theorem w_224 : Jvm.Cond.code ({ cls := "CycleGroups", name := "countGroup", desc := "(LCycleGroups$Chain;)V" } : Jvm.MethodName) prog_1_method_24_code (3 : Nat) (Option.none : Option Jvm.ClassFile.FieldType) ∈ tg := tg_of (List.mem_append_right _ (List.mem_append_left _ (List.mem_of_getElem? (l := tables_1_1) (i := 224) (by rfl)))) rfl
theorem w_225 : Jvm.Cond.methodLink "CycleGroups" (138 : Nat) ({ cls := "CycleGroups$Decimal", name := "setOne", desc := "()V" } : Jvm.MethodName) ∈ tg := tg_of (List.mem_append_right _ (List.mem_append_left _ (List.mem_of_getElem? (l := tables_1_1) (i := 225) (by rfl)))) rfl
theorem w_226 : Jvm.Cond.instanceMethod ({ cls := "CycleGroups$Decimal", name := "setOne", desc := "()V" } : Jvm.MethodName) ∈ tg := tg_of (List.mem_append_right _ (List.mem_append_left _ (List.mem_of_getElem? (l := tables_1_1) (i := 226) (by rfl)))) rfl
theorem w_227 : Jvm.Cond.selects "CycleGroups$Decimal" ({ cls := "CycleGroups$Decimal", name := "setOne", desc := "()V" } : Jvm.MethodName) ({ cls := "CycleGroups$Decimal", name := "setOne", desc := "()V" } : Jvm.MethodName) ∈ tg := tg_of (List.mem_append_right _ (List.mem_append_left _ (List.mem_of_getElem? (l := tables_1_1) (i := 227) (by rfl)))) rfl
theorem w_228 : Jvm.Cond.code ({ cls := "CycleGroups$Decimal", name := "setOne", desc := "()V" } : Jvm.MethodName) prog_3_method_2_code (1 : Nat) (Option.none : Option Jvm.ClassFile.FieldType) ∈ tg := tg_of (List.mem_append_right _ (List.mem_append_left _ (List.mem_of_getElem? (l := tables_1_1) (i := 228) (by rfl)))) rfl
theorem w_229 : Jvm.Cond.methodLink "CycleGroups$Decimal" (13 : Nat) ({ cls := "java/util/Arrays", name := "fill", desc := "([II)V" } : Jvm.MethodName) ∈ tg := tg_of (List.mem_append_right _ (List.mem_append_left _ (List.mem_of_getElem? (l := tables_1_1) (i := 229) (by rfl)))) rfl
theorem w_230 : Jvm.Cond.methodLink "CycleGroups" (141 : Nat) ({ cls := "CycleGroups$Decimal", name := "multiply", desc := "(I)V" } : Jvm.MethodName) ∈ tg := tg_of (List.mem_append_right _ (List.mem_append_left _ (List.mem_of_getElem? (l := tables_1_1) (i := 230) (by rfl)))) rfl
theorem w_231 : Jvm.Cond.instanceMethod ({ cls := "CycleGroups$Decimal", name := "multiply", desc := "(I)V" } : Jvm.MethodName) ∈ tg := tg_of (List.mem_append_right _ (List.mem_append_left _ (List.mem_of_getElem? (l := tables_1_1) (i := 231) (by rfl)))) rfl
theorem w_232 : Jvm.Cond.selects "CycleGroups$Decimal" ({ cls := "CycleGroups$Decimal", name := "multiply", desc := "(I)V" } : Jvm.MethodName) ({ cls := "CycleGroups$Decimal", name := "multiply", desc := "(I)V" } : Jvm.MethodName) ∈ tg := tg_of (List.mem_append_right _ (List.mem_append_left _ (List.mem_of_getElem? (l := tables_1_1) (i := 232) (by rfl)))) rfl
theorem w_233 : Jvm.Cond.code ({ cls := "CycleGroups$Decimal", name := "multiply", desc := "(I)V" } : Jvm.MethodName) prog_3_method_3_code (5 : Nat) (Option.none : Option Jvm.ClassFile.FieldType) ∈ tg := tg_of (List.mem_append_right _ (List.mem_append_left _ (List.mem_of_getElem? (l := tables_1_1) (i := 233) (by rfl)))) rfl
theorem w_234 : Jvm.Cond.methodLink "CycleGroups" (78 : Nat) ({ cls := "CycleGroups$Decimal", name := "digit", desc := "(I)I" } : Jvm.MethodName) ∈ tg := tg_of (List.mem_append_right _ (List.mem_append_left _ (List.mem_of_getElem? (l := tables_1_1) (i := 234) (by rfl)))) rfl
theorem w_235 : Jvm.Cond.instanceMethod ({ cls := "CycleGroups$Decimal", name := "digit", desc := "(I)I" } : Jvm.MethodName) ∈ tg := tg_of (List.mem_append_right _ (List.mem_append_left _ (List.mem_of_getElem? (l := tables_1_1) (i := 235) (by rfl)))) rfl
theorem w_236 : Jvm.Cond.selects "CycleGroups$Decimal" ({ cls := "CycleGroups$Decimal", name := "digit", desc := "(I)I" } : Jvm.MethodName) ({ cls := "CycleGroups$Decimal", name := "digit", desc := "(I)I" } : Jvm.MethodName) ∈ tg := tg_of (List.mem_append_right _ (List.mem_append_left _ (List.mem_of_getElem? (l := tables_1_1) (i := 236) (by rfl)))) rfl
theorem w_237 : Jvm.Cond.code ({ cls := "CycleGroups$Decimal", name := "digit", desc := "(I)I" } : Jvm.MethodName) prog_3_method_5_code (2 : Nat) (Option.some Jvm.ClassFile.FieldType.int) ∈ tg := tg_of (List.mem_append_right _ (List.mem_append_left _ (List.mem_of_getElem? (l := tables_1_1) (i := 237) (by rfl)))) rfl
theorem w_238 : Jvm.Cond.methodLink "CycleGroups$Decimal" (19 : Nat) ({ cls := "CycleGroups$Decimal", name := "length", desc := "()I" } : Jvm.MethodName) ∈ tg := tg_of (List.mem_append_right _ (List.mem_append_left _ (List.mem_of_getElem? (l := tables_1_1) (i := 238) (by rfl)))) rfl
theorem w_240 : Jvm.Cond.instanceMethod ({ cls := "CycleGroups$Decimal", name := "length", desc := "()I" } : Jvm.MethodName) ∈ tg := tg_of (List.mem_append_right _ (List.mem_append_right _ (List.mem_append_left _ (List.mem_of_getElem? (l := tables_1_2) (i := 0) (by rfl))))) rfl
theorem w_241 : Jvm.Cond.code ({ cls := "CycleGroups$Decimal", name := "length", desc := "()I" } : Jvm.MethodName) prog_3_method_6_code (2 : Nat) (Option.some Jvm.ClassFile.FieldType.int) ∈ tg := tg_of (List.mem_append_right _ (List.mem_append_right _ (List.mem_append_left _ (List.mem_of_getElem? (l := tables_1_2) (i := 1) (by rfl))))) rfl
theorem w_242 : Jvm.Cond.methodLink "CycleGroupsLaw" (48 : Nat) ({ cls := "CycleGroups", name := "stabiliser", desc := "(II)I" } : Jvm.MethodName) ∈ tg := tg_of (List.mem_append_right _ (List.mem_append_right _ (List.mem_append_left _ (List.mem_of_getElem? (l := tables_1_2) (i := 2) (by rfl))))) rfl
theorem w_243 : Jvm.Cond.instanceMethod ({ cls := "CycleGroups", name := "stabiliser", desc := "(II)I" } : Jvm.MethodName) ∈ tg := tg_of (List.mem_append_right _ (List.mem_append_right _ (List.mem_append_left _ (List.mem_of_getElem? (l := tables_1_2) (i := 3) (by rfl))))) rfl
theorem w_244 : Jvm.Cond.selects "CycleGroups" ({ cls := "CycleGroups", name := "stabiliser", desc := "(II)I" } : Jvm.MethodName) ({ cls := "CycleGroups", name := "stabiliser", desc := "(II)I" } : Jvm.MethodName) ∈ tg := tg_of (List.mem_append_right _ (List.mem_append_right _ (List.mem_append_left _ (List.mem_of_getElem? (l := tables_1_2) (i := 4) (by rfl))))) rfl
theorem w_245 : Jvm.Cond.code ({ cls := "CycleGroups", name := "stabiliser", desc := "(II)I" } : Jvm.MethodName) prog_1_method_8_code (3 : Nat) (Option.some Jvm.ClassFile.FieldType.int) ∈ tg := tg_of (List.mem_append_right _ (List.mem_append_right _ (List.mem_append_left _ (List.mem_of_getElem? (l := tables_1_2) (i := 5) (by rfl))))) rfl
theorem w_246 : Jvm.Cond.methodLink "CycleGroups" (81 : Nat) ({ cls := "CycleGroups$Partition", name := "separate", desc := "()V" } : Jvm.MethodName) ∈ tg := tg_of (List.mem_append_right _ (List.mem_append_right _ (List.mem_append_left _ (List.mem_of_getElem? (l := tables_1_2) (i := 6) (by rfl))))) rfl
theorem w_247 : Jvm.Cond.instanceMethod ({ cls := "CycleGroups$Partition", name := "separate", desc := "()V" } : Jvm.MethodName) ∈ tg := tg_of (List.mem_append_right _ (List.mem_append_right _ (List.mem_append_left _ (List.mem_of_getElem? (l := tables_1_2) (i := 7) (by rfl))))) rfl
theorem w_248 : Jvm.Cond.selects "CycleGroups$Partition" ({ cls := "CycleGroups$Partition", name := "separate", desc := "()V" } : Jvm.MethodName) ({ cls := "CycleGroups$Partition", name := "separate", desc := "()V" } : Jvm.MethodName) ∈ tg := tg_of (List.mem_append_right _ (List.mem_append_right _ (List.mem_append_left _ (List.mem_of_getElem? (l := tables_1_2) (i := 8) (by rfl))))) rfl
theorem w_249 : Jvm.Cond.code ({ cls := "CycleGroups$Partition", name := "separate", desc := "()V" } : Jvm.MethodName) prog_5_method_2_code (1 : Nat) (Option.none : Option Jvm.ClassFile.FieldType) ∈ tg := tg_of (List.mem_append_right _ (List.mem_append_right _ (List.mem_append_left _ (List.mem_of_getElem? (l := tables_1_2) (i := 9) (by rfl))))) rfl
theorem w_250 : Jvm.Cond.methodLinkNest "CycleGroups$Partition" (13 : Nat) ({ cls := "CycleGroups", name := "leaveAll", desc := "([I)V" } : Jvm.MethodName) "CycleGroups" ∈ lw_tbl := List.mem_append_right _ (List.mem_append_right _ (List.mem_append_left _ (List.mem_of_getElem? (l := tables_1_2) (i := 10) (by rfl))))
theorem w_251 : Jvm.Cond.methodLink "CycleGroups" (84 : Nat) ({ cls := "CycleGroups$Partition", name := "joinOrbits", desc := "([[II)V" } : Jvm.MethodName) ∈ tg := tg_of (List.mem_append_right _ (List.mem_append_right _ (List.mem_append_left _ (List.mem_of_getElem? (l := tables_1_2) (i := 11) (by rfl))))) rfl
theorem w_252 : Jvm.Cond.instanceMethod ({ cls := "CycleGroups$Partition", name := "joinOrbits", desc := "([[II)V" } : Jvm.MethodName) ∈ tg := tg_of (List.mem_append_right _ (List.mem_append_right _ (List.mem_append_left _ (List.mem_of_getElem? (l := tables_1_2) (i := 12) (by rfl))))) rfl
theorem w_253 : Jvm.Cond.selects "CycleGroups$Partition" ({ cls := "CycleGroups$Partition", name := "joinOrbits", desc := "([[II)V" } : Jvm.MethodName) ({ cls := "CycleGroups$Partition", name := "joinOrbits", desc := "([[II)V" } : Jvm.MethodName) ∈ tg := tg_of (List.mem_append_right _ (List.mem_append_right _ (List.mem_append_left _ (List.mem_of_getElem? (l := tables_1_2) (i := 13) (by rfl))))) rfl
theorem w_254 : Jvm.Cond.code ({ cls := "CycleGroups$Partition", name := "joinOrbits", desc := "([[II)V" } : Jvm.MethodName) prog_5_method_4_code (5 : Nat) (Option.none : Option Jvm.ClassFile.FieldType) ∈ tg := tg_of (List.mem_append_right _ (List.mem_append_right _ (List.mem_append_left _ (List.mem_of_getElem? (l := tables_1_2) (i := 14) (by rfl))))) rfl
theorem w_255 : Jvm.Cond.methodLink "CycleGroups$Partition" (28 : Nat) ({ cls := "CycleGroups$Partition", name := "join", desc := "(II)Z" } : Jvm.MethodName) ∈ tg := tg_of (List.mem_append_right _ (List.mem_append_right _ (List.mem_append_left _ (List.mem_of_getElem? (l := tables_1_2) (i := 15) (by rfl))))) rfl
theorem w_256 : Jvm.Cond.instanceMethod ({ cls := "CycleGroups$Partition", name := "join", desc := "(II)Z" } : Jvm.MethodName) ∈ tg := tg_of (List.mem_append_right _ (List.mem_append_right _ (List.mem_append_left _ (List.mem_of_getElem? (l := tables_1_2) (i := 16) (by rfl))))) rfl
theorem w_257 : Jvm.Cond.selects "CycleGroups$Partition" ({ cls := "CycleGroups$Partition", name := "join", desc := "(II)Z" } : Jvm.MethodName) ({ cls := "CycleGroups$Partition", name := "join", desc := "(II)Z" } : Jvm.MethodName) ∈ tg := tg_of (List.mem_append_right _ (List.mem_append_right _ (List.mem_append_left _ (List.mem_of_getElem? (l := tables_1_2) (i := 17) (by rfl))))) rfl
theorem w_258 : Jvm.Cond.code ({ cls := "CycleGroups$Partition", name := "join", desc := "(II)Z" } : Jvm.MethodName) prog_5_method_3_code (6 : Nat) (Option.some Jvm.ClassFile.FieldType.boolean) ∈ tg := tg_of (List.mem_append_right _ (List.mem_append_right _ (List.mem_append_left _ (List.mem_of_getElem? (l := tables_1_2) (i := 18) (by rfl))))) rfl
theorem w_259 : Jvm.Cond.methodLink "CycleGroups$Partition" (19 : Nat) ({ cls := "java/lang/Math", name := "min", desc := "(II)I" } : Jvm.MethodName) ∈ tg := tg_of (List.mem_append_right _ (List.mem_append_right _ (List.mem_append_left _ (List.mem_of_getElem? (l := tables_1_2) (i := 19) (by rfl))))) rfl
theorem w_260 : Jvm.Cond.methodLink "CycleGroups$Partition" (25 : Nat) ({ cls := "java/lang/Math", name := "max", desc := "(II)I" } : Jvm.MethodName) ∈ tg := tg_of (List.mem_append_right _ (List.mem_append_right _ (List.mem_append_left _ (List.mem_of_getElem? (l := tables_1_2) (i := 20) (by rfl))))) rfl
theorem w_261 : Jvm.Cond.methodLink "CycleGroups" (88 : Nat) ({ cls := "CycleGroups$Partition", name := "sizeWith", desc := "(I)I" } : Jvm.MethodName) ∈ tg := tg_of (List.mem_append_right _ (List.mem_append_right _ (List.mem_append_left _ (List.mem_of_getElem? (l := tables_1_2) (i := 21) (by rfl))))) rfl
theorem w_262 : Jvm.Cond.instanceMethod ({ cls := "CycleGroups$Partition", name := "sizeWith", desc := "(I)I" } : Jvm.MethodName) ∈ tg := tg_of (List.mem_append_right _ (List.mem_append_right _ (List.mem_append_left _ (List.mem_of_getElem? (l := tables_1_2) (i := 22) (by rfl))))) rfl
theorem w_263 : Jvm.Cond.selects "CycleGroups$Partition" ({ cls := "CycleGroups$Partition", name := "sizeWith", desc := "(I)I" } : Jvm.MethodName) ({ cls := "CycleGroups$Partition", name := "sizeWith", desc := "(I)I" } : Jvm.MethodName) ∈ tg := tg_of (List.mem_append_right _ (List.mem_append_right _ (List.mem_append_left _ (List.mem_of_getElem? (l := tables_1_2) (i := 23) (by rfl))))) rfl
theorem w_264 : Jvm.Cond.code ({ cls := "CycleGroups$Partition", name := "sizeWith", desc := "(I)I" } : Jvm.MethodName) prog_5_method_8_code (4 : Nat) (Option.some Jvm.ClassFile.FieldType.int) ∈ tg := tg_of (List.mem_append_right _ (List.mem_append_right _ (List.mem_append_left _ (List.mem_of_getElem? (l := tables_1_2) (i := 24) (by rfl))))) rfl
theorem w_265 : Jvm.Cond.methodLink "CycleGroups" (91 : Nat) ({ cls := "CycleGroups$Decimal", name := "divide", desc := "(I)V" } : Jvm.MethodName) ∈ tg := tg_of (List.mem_append_right _ (List.mem_append_right _ (List.mem_append_left _ (List.mem_of_getElem? (l := tables_1_2) (i := 25) (by rfl))))) rfl
theorem w_266 : Jvm.Cond.instanceMethod ({ cls := "CycleGroups$Decimal", name := "divide", desc := "(I)V" } : Jvm.MethodName) ∈ tg := tg_of (List.mem_append_right _ (List.mem_append_right _ (List.mem_append_left _ (List.mem_of_getElem? (l := tables_1_2) (i := 26) (by rfl))))) rfl
theorem w_267 : Jvm.Cond.selects "CycleGroups$Decimal" ({ cls := "CycleGroups$Decimal", name := "divide", desc := "(I)V" } : Jvm.MethodName) ({ cls := "CycleGroups$Decimal", name := "divide", desc := "(I)V" } : Jvm.MethodName) ∈ tg := tg_of (List.mem_append_right _ (List.mem_append_right _ (List.mem_append_left _ (List.mem_of_getElem? (l := tables_1_2) (i := 27) (by rfl))))) rfl
theorem w_268 : Jvm.Cond.code ({ cls := "CycleGroups$Decimal", name := "divide", desc := "(I)V" } : Jvm.MethodName) prog_3_method_4_code (5 : Nat) (Option.none : Option Jvm.ClassFile.FieldType) ∈ tg := tg_of (List.mem_append_right _ (List.mem_append_right _ (List.mem_append_left _ (List.mem_of_getElem? (l := tables_1_2) (i := 28) (by rfl))))) rfl
theorem w_269 : Jvm.Cond.methodLink "CycleGroupsLaw" (53 : Nat) ({ cls := "CycleGroups", name := "orbit", desc := "(I)I" } : Jvm.MethodName) ∈ tg := tg_of (List.mem_append_right _ (List.mem_append_right _ (List.mem_append_left _ (List.mem_of_getElem? (l := tables_1_2) (i := 29) (by rfl))))) rfl
theorem w_270 : Jvm.Cond.instanceMethod ({ cls := "CycleGroups", name := "orbit", desc := "(I)I" } : Jvm.MethodName) ∈ tg := tg_of (List.mem_append_right _ (List.mem_append_right _ (List.mem_append_left _ (List.mem_of_getElem? (l := tables_1_2) (i := 30) (by rfl))))) rfl
theorem w_271 : Jvm.Cond.selects "CycleGroups" ({ cls := "CycleGroups", name := "orbit", desc := "(I)I" } : Jvm.MethodName) ({ cls := "CycleGroups", name := "orbit", desc := "(I)I" } : Jvm.MethodName) ∈ tg := tg_of (List.mem_append_right _ (List.mem_append_right _ (List.mem_append_left _ (List.mem_of_getElem? (l := tables_1_2) (i := 31) (by rfl))))) rfl
theorem w_272 : Jvm.Cond.code ({ cls := "CycleGroups", name := "orbit", desc := "(I)I" } : Jvm.MethodName) prog_1_method_9_code (2 : Nat) (Option.some Jvm.ClassFile.FieldType.int) ∈ tg := tg_of (List.mem_append_right _ (List.mem_append_right _ (List.mem_append_left _ (List.mem_of_getElem? (l := tables_1_2) (i := 32) (by rfl))))) rfl
theorem w_273 : Jvm.Cond.methodLink "CycleGroups" (94 : Nat) ({ cls := "CycleGroups$Partition", name := "leastWith", desc := "(I)I" } : Jvm.MethodName) ∈ tg := tg_of (List.mem_append_right _ (List.mem_append_right _ (List.mem_append_left _ (List.mem_of_getElem? (l := tables_1_2) (i := 33) (by rfl))))) rfl
theorem w_274 : Jvm.Cond.instanceMethod ({ cls := "CycleGroups$Partition", name := "leastWith", desc := "(I)I" } : Jvm.MethodName) ∈ tg := tg_of (List.mem_append_right _ (List.mem_append_right _ (List.mem_append_left _ (List.mem_of_getElem? (l := tables_1_2) (i := 34) (by rfl))))) rfl
theorem w_275 : Jvm.Cond.selects "CycleGroups$Partition" ({ cls := "CycleGroups$Partition", name := "leastWith", desc := "(I)I" } : Jvm.MethodName) ({ cls := "CycleGroups$Partition", name := "leastWith", desc := "(I)I" } : Jvm.MethodName) ∈ tg := tg_of (List.mem_append_right _ (List.mem_append_right _ (List.mem_append_left _ (List.mem_of_getElem? (l := tables_1_2) (i := 35) (by rfl))))) rfl
theorem w_276 : Jvm.Cond.code ({ cls := "CycleGroups$Partition", name := "leastWith", desc := "(I)I" } : Jvm.MethodName) prog_5_method_7_code (2 : Nat) (Option.some Jvm.ClassFile.FieldType.int) ∈ tg := tg_of (List.mem_append_right _ (List.mem_append_right _ (List.mem_append_left _ (List.mem_of_getElem? (l := tables_1_2) (i := 36) (by rfl))))) rfl
theorem w_277 : Jvm.Cond.methodLink "CycleGroupsLaw" (57 : Nat) ({ cls := "CycleGroups", name := "block", desc := "(II)I" } : Jvm.MethodName) ∈ tg := tg_of (List.mem_append_right _ (List.mem_append_right _ (List.mem_append_left _ (List.mem_of_getElem? (l := tables_1_2) (i := 37) (by rfl))))) rfl
theorem w_278 : Jvm.Cond.instanceMethod ({ cls := "CycleGroups", name := "block", desc := "(II)I" } : Jvm.MethodName) ∈ tg := tg_of (List.mem_append_right _ (List.mem_append_right _ (List.mem_append_left _ (List.mem_of_getElem? (l := tables_1_2) (i := 38) (by rfl))))) rfl
theorem w_279 : Jvm.Cond.selects "CycleGroups" ({ cls := "CycleGroups", name := "block", desc := "(II)I" } : Jvm.MethodName) ({ cls := "CycleGroups", name := "block", desc := "(II)I" } : Jvm.MethodName) ∈ tg := tg_of (List.mem_append_right _ (List.mem_append_right _ (List.mem_append_left _ (List.mem_of_getElem? (l := tables_1_2) (i := 39) (by rfl))))) rfl
theorem w_280 : Jvm.Cond.code ({ cls := "CycleGroups", name := "block", desc := "(II)I" } : Jvm.MethodName) prog_1_method_10_code (3 : Nat) (Option.some Jvm.ClassFile.FieldType.int) ∈ tg := tg_of (List.mem_append_right _ (List.mem_append_right _ (List.mem_append_left _ (List.mem_of_getElem? (l := tables_1_2) (i := 40) (by rfl))))) rfl
theorem w_281 : Jvm.Cond.methodLink "CycleGroups" (97 : Nat) ({ cls := "CycleGroups$Partition", name := "join", desc := "(II)Z" } : Jvm.MethodName) ∈ tg := tg_of (List.mem_append_right _ (List.mem_append_right _ (List.mem_append_left _ (List.mem_of_getElem? (l := tables_1_2) (i := 41) (by rfl))))) rfl
theorem w_282 : Jvm.Cond.methodLink "CycleGroups" (101 : Nat) ({ cls := "CycleGroups$Partition", name := "joinImages", desc := "([[II)V" } : Jvm.MethodName) ∈ tg := tg_of (List.mem_append_right _ (List.mem_append_right _ (List.mem_append_left _ (List.mem_of_getElem? (l := tables_1_2) (i := 42) (by rfl))))) rfl
theorem w_283 : Jvm.Cond.instanceMethod ({ cls := "CycleGroups$Partition", name := "joinImages", desc := "([[II)V" } : Jvm.MethodName) ∈ tg := tg_of (List.mem_append_right _ (List.mem_append_right _ (List.mem_append_left _ (List.mem_of_getElem? (l := tables_1_2) (i := 43) (by rfl))))) rfl
theorem w_284 : Jvm.Cond.selects "CycleGroups$Partition" ({ cls := "CycleGroups$Partition", name := "joinImages", desc := "([[II)V" } : Jvm.MethodName) ({ cls := "CycleGroups$Partition", name := "joinImages", desc := "([[II)V" } : Jvm.MethodName) ∈ tg := tg_of (List.mem_append_right _ (List.mem_append_right _ (List.mem_append_left _ (List.mem_of_getElem? (l := tables_1_2) (i := 44) (by rfl))))) rfl
theorem w_285 : Jvm.Cond.code ({ cls := "CycleGroups$Partition", name := "joinImages", desc := "([[II)V" } : Jvm.MethodName) prog_5_method_5_code (6 : Nat) (Option.none : Option Jvm.ClassFile.FieldType) ∈ tg := tg_of (List.mem_append_right _ (List.mem_append_right _ (List.mem_append_left _ (List.mem_of_getElem? (l := tables_1_2) (i := 45) (by rfl))))) rfl
theorem w_286 : Jvm.Cond.methodLink "CycleGroups$Partition" (32 : Nat) ({ cls := "CycleGroups$Partition", name := "joinImagesOnce", desc := "([I)Z" } : Jvm.MethodName) ∈ tg := tg_of (List.mem_append_right _ (List.mem_append_right _ (List.mem_append_left _ (List.mem_of_getElem? (l := tables_1_2) (i := 46) (by rfl))))) rfl
theorem w_288 : Jvm.Cond.instanceMethod ({ cls := "CycleGroups$Partition", name := "joinImagesOnce", desc := "([I)Z" } : Jvm.MethodName) ∈ tg := tg_of (List.mem_append_right _ (List.mem_append_right _ (List.mem_append_left _ (List.mem_of_getElem? (l := tables_1_2) (i := 48) (by rfl))))) rfl
theorem w_289 : Jvm.Cond.code ({ cls := "CycleGroups$Partition", name := "joinImagesOnce", desc := "([I)Z" } : Jvm.MethodName) prog_5_method_6_code (4 : Nat) (Option.some Jvm.ClassFile.FieldType.boolean) ∈ tg := tg_of (List.mem_append_right _ (List.mem_append_right _ (List.mem_append_left _ (List.mem_of_getElem? (l := tables_1_2) (i := 49) (by rfl))))) rfl
theorem w_290 : Jvm.Cond.methodLink "CycleGroupsLaw" (61 : Nat) ({ cls := "CycleGroups", name := "state", desc := "()I" } : Jvm.MethodName) ∈ tg := tg_of (List.mem_append_right _ (List.mem_append_right _ (List.mem_append_left _ (List.mem_of_getElem? (l := tables_1_2) (i := 50) (by rfl))))) rfl
theorem w_291 : Jvm.Cond.instanceMethod ({ cls := "CycleGroups", name := "state", desc := "()I" } : Jvm.MethodName) ∈ tg := tg_of (List.mem_append_right _ (List.mem_append_right _ (List.mem_append_left _ (List.mem_of_getElem? (l := tables_1_2) (i := 51) (by rfl))))) rfl
theorem w_292 : Jvm.Cond.selects "CycleGroups" ({ cls := "CycleGroups", name := "state", desc := "()I" } : Jvm.MethodName) ({ cls := "CycleGroups", name := "state", desc := "()I" } : Jvm.MethodName) ∈ tg := tg_of (List.mem_append_right _ (List.mem_append_right _ (List.mem_append_left _ (List.mem_of_getElem? (l := tables_1_2) (i := 52) (by rfl))))) rfl
theorem w_293 : Jvm.Cond.code ({ cls := "CycleGroups", name := "state", desc := "()I" } : Jvm.MethodName) prog_1_method_11_code (1 : Nat) (Option.some Jvm.ClassFile.FieldType.int) ∈ tg := tg_of (List.mem_append_right _ (List.mem_append_right _ (List.mem_append_left _ (List.mem_of_getElem? (l := tables_1_2) (i := 53) (by rfl))))) rfl
theorem w_294 : Jvm.Cond.methodLink "CycleGroupsLaw" (65 : Nat) ({ cls := "CycleGroups", name := "apply", desc := "(II)Z" } : Jvm.MethodName) ∈ tg := tg_of (List.mem_append_right _ (List.mem_append_right _ (List.mem_append_left _ (List.mem_of_getElem? (l := tables_1_2) (i := 54) (by rfl))))) rfl
theorem w_295 : Jvm.Cond.instanceMethod ({ cls := "CycleGroups", name := "apply", desc := "(II)Z" } : Jvm.MethodName) ∈ tg := tg_of (List.mem_append_right _ (List.mem_append_right _ (List.mem_append_left _ (List.mem_of_getElem? (l := tables_1_2) (i := 55) (by rfl))))) rfl
theorem w_296 : Jvm.Cond.selects "CycleGroups" ({ cls := "CycleGroups", name := "apply", desc := "(II)Z" } : Jvm.MethodName) ({ cls := "CycleGroups", name := "apply", desc := "(II)Z" } : Jvm.MethodName) ∈ tg := tg_of (List.mem_append_right _ (List.mem_append_right _ (List.mem_append_left _ (List.mem_of_getElem? (l := tables_1_2) (i := 56) (by rfl))))) rfl
theorem w_297 : Jvm.Cond.code ({ cls := "CycleGroups", name := "apply", desc := "(II)Z" } : Jvm.MethodName) prog_1_method_12_code (3 : Nat) (Option.some Jvm.ClassFile.FieldType.boolean) ∈ tg := tg_of (List.mem_append_right _ (List.mem_append_right _ (List.mem_append_left _ (List.mem_of_getElem? (l := tables_1_2) (i := 57) (by rfl))))) rfl
theorem w_298 : Jvm.Cond.methodLink "CycleGroups" (107 : Nat) ({ cls := "CycleGroups", name := "isState", desc := "(I)Z" } : Jvm.MethodName) ∈ tg := tg_of (List.mem_append_right _ (List.mem_append_right _ (List.mem_append_left _ (List.mem_of_getElem? (l := tables_1_2) (i := 58) (by rfl))))) rfl
theorem w_300 : Jvm.Cond.instanceMethod ({ cls := "CycleGroups", name := "isState", desc := "(I)Z" } : Jvm.MethodName) ∈ tg := tg_of (List.mem_append_right _ (List.mem_append_right _ (List.mem_append_left _ (List.mem_of_getElem? (l := tables_1_2) (i := 60) (by rfl))))) rfl
theorem w_301 : Jvm.Cond.code ({ cls := "CycleGroups", name := "isState", desc := "(I)Z" } : Jvm.MethodName) prog_1_method_22_code (2 : Nat) (Option.some Jvm.ClassFile.FieldType.boolean) ∈ tg := tg_of (List.mem_append_right _ (List.mem_append_right _ (List.mem_append_left _ (List.mem_of_getElem? (l := tables_1_2) (i := 61) (by rfl))))) rfl
theorem w_302 : Jvm.Cond.methodLink "CycleGroups" (110 : Nat) ({ cls := "CycleGroups", name := "follow", desc := "([I[I)V" } : Jvm.MethodName) ∈ tg := tg_of (List.mem_append_right _ (List.mem_append_right _ (List.mem_append_left _ (List.mem_of_getElem? (l := tables_1_2) (i := 62) (by rfl))))) rfl
theorem w_303 : Jvm.Cond.static ({ cls := "CycleGroups", name := "follow", desc := "([I[I)V" } : Jvm.MethodName) ∈ tg := tg_of (List.mem_append_right _ (List.mem_append_right _ (List.mem_append_left _ (List.mem_of_getElem? (l := tables_1_2) (i := 63) (by rfl))))) rfl
theorem w_304 : Jvm.Cond.code ({ cls := "CycleGroups", name := "follow", desc := "([I[I)V" } : Jvm.MethodName) prog_1_method_26_code (3 : Nat) (Option.none : Option Jvm.ClassFile.FieldType) ∈ tg := tg_of (List.mem_append_right _ (List.mem_append_right _ (List.mem_append_left _ (List.mem_of_getElem? (l := tables_1_2) (i := 64) (by rfl))))) rfl
theorem w_305 : Jvm.Cond.methodLink "CycleGroupsLaw" (70 : Nat) ({ cls := "CycleGroups", name := "exchange", desc := "(III)Z" } : Jvm.MethodName) ∈ tg := tg_of (List.mem_append_right _ (List.mem_append_right _ (List.mem_append_left _ (List.mem_of_getElem? (l := tables_1_2) (i := 65) (by rfl))))) rfl
theorem w_306 : Jvm.Cond.instanceMethod ({ cls := "CycleGroups", name := "exchange", desc := "(III)Z" } : Jvm.MethodName) ∈ tg := tg_of (List.mem_append_right _ (List.mem_append_right _ (List.mem_append_left _ (List.mem_of_getElem? (l := tables_1_2) (i := 66) (by rfl))))) rfl
theorem w_307 : Jvm.Cond.selects "CycleGroups" ({ cls := "CycleGroups", name := "exchange", desc := "(III)Z" } : Jvm.MethodName) ({ cls := "CycleGroups", name := "exchange", desc := "(III)Z" } : Jvm.MethodName) ∈ tg := tg_of (List.mem_append_right _ (List.mem_append_right _ (List.mem_append_left _ (List.mem_of_getElem? (l := tables_1_2) (i := 67) (by rfl))))) rfl
theorem w_308 : Jvm.Cond.code ({ cls := "CycleGroups", name := "exchange", desc := "(III)Z" } : Jvm.MethodName) prog_1_method_13_code (6 : Nat) (Option.some Jvm.ClassFile.FieldType.boolean) ∈ tg := tg_of (List.mem_append_right _ (List.mem_append_right _ (List.mem_append_left _ (List.mem_of_getElem? (l := tables_1_2) (i := 68) (by rfl))))) rfl
theorem w_309 : Jvm.Cond.methodLink "CycleGroupsLaw" (76 : Nat) ({ cls := "CycleGroups", name := "scramble", desc := "(IJI)Z" } : Jvm.MethodName) ∈ tg := tg_of (List.mem_append_right _ (List.mem_append_right _ (List.mem_append_left _ (List.mem_of_getElem? (l := tables_1_2) (i := 69) (by rfl))))) rfl
theorem w_310 : Jvm.Cond.instanceMethod ({ cls := "CycleGroups", name := "scramble", desc := "(IJI)Z" } : Jvm.MethodName) ∈ tg := tg_of (List.mem_append_right _ (List.mem_append_right _ (List.mem_append_left _ (List.mem_of_getElem? (l := tables_1_2) (i := 70) (by rfl))))) rfl
theorem w_311 : Jvm.Cond.selects "CycleGroups" ({ cls := "CycleGroups", name := "scramble", desc := "(IJI)Z" } : Jvm.MethodName) ({ cls := "CycleGroups", name := "scramble", desc := "(IJI)Z" } : Jvm.MethodName) ∈ tg := tg_of (List.mem_append_right _ (List.mem_append_right _ (List.mem_append_left _ (List.mem_of_getElem? (l := tables_1_2) (i := 71) (by rfl))))) rfl
theorem w_312 : Jvm.Cond.code ({ cls := "CycleGroups", name := "scramble", desc := "(IJI)Z" } : Jvm.MethodName) prog_1_method_14_code (9 : Nat) (Option.some Jvm.ClassFile.FieldType.boolean) ∈ tg := tg_of (List.mem_append_right _ (List.mem_append_right _ (List.mem_append_left _ (List.mem_of_getElem? (l := tables_1_2) (i := 72) (by rfl))))) rfl
theorem w_313 : Jvm.Cond.constantLong "CycleGroups" (114 : Nat) (6364136223846793005 : Int64) ∈ tg := tg_of (List.mem_append_right _ (List.mem_append_right _ (List.mem_append_left _ (List.mem_of_getElem? (l := tables_1_2) (i := 73) (by rfl))))) rfl
theorem w_314 : Jvm.Cond.constantLong "CycleGroups" (116 : Nat) (1442695040888963407 : Int64) ∈ tg := tg_of (List.mem_append_right _ (List.mem_append_right _ (List.mem_append_left _ (List.mem_of_getElem? (l := tables_1_2) (i := 74) (by rfl))))) rfl
theorem w_315 : Jvm.Cond.methodLink "CycleGroupsLaw" (81 : Nat) ({ cls := "CycleGroups", name := "image", desc := "(II)I" } : Jvm.MethodName) ∈ tg := tg_of (List.mem_append_right _ (List.mem_append_right _ (List.mem_append_left _ (List.mem_of_getElem? (l := tables_1_2) (i := 75) (by rfl))))) rfl
theorem w_316 : Jvm.Cond.instanceMethod ({ cls := "CycleGroups", name := "image", desc := "(II)I" } : Jvm.MethodName) ∈ tg := tg_of (List.mem_append_right _ (List.mem_append_right _ (List.mem_append_left _ (List.mem_of_getElem? (l := tables_1_2) (i := 76) (by rfl))))) rfl
theorem w_317 : Jvm.Cond.selects "CycleGroups" ({ cls := "CycleGroups", name := "image", desc := "(II)I" } : Jvm.MethodName) ({ cls := "CycleGroups", name := "image", desc := "(II)I" } : Jvm.MethodName) ∈ tg := tg_of (List.mem_append_right _ (List.mem_append_right _ (List.mem_append_left _ (List.mem_of_getElem? (l := tables_1_2) (i := 77) (by rfl))))) rfl
theorem w_318 : Jvm.Cond.code ({ cls := "CycleGroups", name := "image", desc := "(II)I" } : Jvm.MethodName) prog_1_method_15_code (3 : Nat) (Option.some Jvm.ClassFile.FieldType.int) ∈ tg := tg_of (List.mem_append_right _ (List.mem_append_right _ (List.mem_append_left _ (List.mem_of_getElem? (l := tables_1_2) (i := 78) (by rfl))))) rfl
theorem w_319 : Jvm.Cond.methodLink "CycleGroupsLaw" (85 : Nat) ({ cls := "CycleGroups", name := "member", desc := "(I)I" } : Jvm.MethodName) ∈ tg := tg_of (List.mem_append_right _ (List.mem_append_right _ (List.mem_append_left _ (List.mem_of_getElem? (l := tables_1_2) (i := 79) (by rfl))))) rfl
theorem w_320 : Jvm.Cond.instanceMethod ({ cls := "CycleGroups", name := "member", desc := "(I)I" } : Jvm.MethodName) ∈ tg := tg_of (List.mem_append_right _ (List.mem_append_right _ (List.mem_append_left _ (List.mem_of_getElem? (l := tables_1_2) (i := 80) (by rfl))))) rfl
theorem w_321 : Jvm.Cond.selects "CycleGroups" ({ cls := "CycleGroups", name := "member", desc := "(I)I" } : Jvm.MethodName) ({ cls := "CycleGroups", name := "member", desc := "(I)I" } : Jvm.MethodName) ∈ tg := tg_of (List.mem_append_right _ (List.mem_append_right _ (List.mem_append_left _ (List.mem_of_getElem? (l := tables_1_2) (i := 81) (by rfl))))) rfl
theorem w_322 : Jvm.Cond.code ({ cls := "CycleGroups", name := "member", desc := "(I)I" } : Jvm.MethodName) prog_1_method_16_code (2 : Nat) (Option.some Jvm.ClassFile.FieldType.int) ∈ tg := tg_of (List.mem_append_right _ (List.mem_append_right _ (List.mem_append_left _ (List.mem_of_getElem? (l := tables_1_2) (i := 82) (by rfl))))) rfl
theorem w_323 : Jvm.Cond.methodLink "CycleGroups" (118 : Nat) ({ cls := "CycleGroups$Chain", name := "failingPlace", desc := "([I)I" } : Jvm.MethodName) ∈ tg := tg_of (List.mem_append_right _ (List.mem_append_right _ (List.mem_append_left _ (List.mem_of_getElem? (l := tables_1_2) (i := 83) (by rfl))))) rfl
theorem w_324 : Jvm.Cond.methodLink "CycleGroupsLaw" (89 : Nat) ({ cls := "CycleGroups", name := "level", desc := "(I)I" } : Jvm.MethodName) ∈ tg := tg_of (List.mem_append_right _ (List.mem_append_right _ (List.mem_append_left _ (List.mem_of_getElem? (l := tables_1_2) (i := 84) (by rfl))))) rfl
theorem w_325 : Jvm.Cond.instanceMethod ({ cls := "CycleGroups", name := "level", desc := "(I)I" } : Jvm.MethodName) ∈ tg := tg_of (List.mem_append_right _ (List.mem_append_right _ (List.mem_append_left _ (List.mem_of_getElem? (l := tables_1_2) (i := 85) (by rfl))))) rfl
theorem w_326 : Jvm.Cond.selects "CycleGroups" ({ cls := "CycleGroups", name := "level", desc := "(I)I" } : Jvm.MethodName) ({ cls := "CycleGroups", name := "level", desc := "(I)I" } : Jvm.MethodName) ∈ tg := tg_of (List.mem_append_right _ (List.mem_append_right _ (List.mem_append_left _ (List.mem_of_getElem? (l := tables_1_2) (i := 86) (by rfl))))) rfl
theorem w_327 : Jvm.Cond.code ({ cls := "CycleGroups", name := "level", desc := "(I)I" } : Jvm.MethodName) prog_1_method_17_code (2 : Nat) (Option.some Jvm.ClassFile.FieldType.int) ∈ tg := tg_of (List.mem_append_right _ (List.mem_append_right _ (List.mem_append_left _ (List.mem_of_getElem? (l := tables_1_2) (i := 87) (by rfl))))) rfl
theorem w_328 : Jvm.Cond.methodLink "CycleGroupsLaw" (93 : Nat) ({ cls := "CycleGroups", name := "parity", desc := "(I)I" } : Jvm.MethodName) ∈ tg := tg_of (List.mem_append_right _ (List.mem_append_right _ (List.mem_append_left _ (List.mem_of_getElem? (l := tables_1_2) (i := 88) (by rfl))))) rfl
theorem w_329 : Jvm.Cond.instanceMethod ({ cls := "CycleGroups", name := "parity", desc := "(I)I" } : Jvm.MethodName) ∈ tg := tg_of (List.mem_append_right _ (List.mem_append_right _ (List.mem_append_left _ (List.mem_of_getElem? (l := tables_1_2) (i := 89) (by rfl))))) rfl
theorem w_330 : Jvm.Cond.selects "CycleGroups" ({ cls := "CycleGroups", name := "parity", desc := "(I)I" } : Jvm.MethodName) ({ cls := "CycleGroups", name := "parity", desc := "(I)I" } : Jvm.MethodName) ∈ tg := tg_of (List.mem_append_right _ (List.mem_append_right _ (List.mem_append_left _ (List.mem_of_getElem? (l := tables_1_2) (i := 90) (by rfl))))) rfl
theorem w_331 : Jvm.Cond.code ({ cls := "CycleGroups", name := "parity", desc := "(I)I" } : Jvm.MethodName) prog_1_method_18_code (6 : Nat) (Option.some Jvm.ClassFile.FieldType.int) ∈ tg := tg_of (List.mem_append_right _ (List.mem_append_right _ (List.mem_append_left _ (List.mem_of_getElem? (l := tables_1_2) (i := 91) (by rfl))))) rfl
theorem w_332 : Jvm.Cond.methodLink "CycleGroupsLaw" (97 : Nat) ({ cls := "CycleGroups", name := "times", desc := "(I)J" } : Jvm.MethodName) ∈ tg := tg_of (List.mem_append_right _ (List.mem_append_right _ (List.mem_append_left _ (List.mem_of_getElem? (l := tables_1_2) (i := 92) (by rfl))))) rfl
theorem w_333 : Jvm.Cond.instanceMethod ({ cls := "CycleGroups", name := "times", desc := "(I)J" } : Jvm.MethodName) ∈ tg := tg_of (List.mem_append_right _ (List.mem_append_right _ (List.mem_append_left _ (List.mem_of_getElem? (l := tables_1_2) (i := 93) (by rfl))))) rfl
theorem w_334 : Jvm.Cond.selects "CycleGroups" ({ cls := "CycleGroups", name := "times", desc := "(I)J" } : Jvm.MethodName) ({ cls := "CycleGroups", name := "times", desc := "(I)J" } : Jvm.MethodName) ∈ tg := tg_of (List.mem_append_right _ (List.mem_append_right _ (List.mem_append_left _ (List.mem_of_getElem? (l := tables_1_2) (i := 94) (by rfl))))) rfl
theorem w_335 : Jvm.Cond.code ({ cls := "CycleGroups", name := "times", desc := "(I)J" } : Jvm.MethodName) prog_1_method_19_code (5 : Nat) (Option.some Jvm.ClassFile.FieldType.long) ∈ tg := tg_of (List.mem_append_right _ (List.mem_append_right _ (List.mem_append_left _ (List.mem_of_getElem? (l := tables_1_2) (i := 95) (by rfl))))) rfl
theorem w_336 : Jvm.Cond.methodLink "CycleGroups" (122 : Nat) ({ cls := "CycleGroups", name := "returnTime", desc := "([II)I" } : Jvm.MethodName) ∈ tg := tg_of (List.mem_append_right _ (List.mem_append_right _ (List.mem_append_left _ (List.mem_of_getElem? (l := tables_1_2) (i := 96) (by rfl))))) rfl
theorem w_337 : Jvm.Cond.static ({ cls := "CycleGroups", name := "returnTime", desc := "([II)I" } : Jvm.MethodName) ∈ tg := tg_of (List.mem_append_right _ (List.mem_append_right _ (List.mem_append_left _ (List.mem_of_getElem? (l := tables_1_2) (i := 97) (by rfl))))) rfl
theorem w_338 : Jvm.Cond.code ({ cls := "CycleGroups", name := "returnTime", desc := "([II)I" } : Jvm.MethodName) prog_1_method_27_code (4 : Nat) (Option.some Jvm.ClassFile.FieldType.int) ∈ tg := tg_of (List.mem_append_right _ (List.mem_append_right _ (List.mem_append_left _ (List.mem_of_getElem? (l := tables_1_2) (i := 98) (by rfl))))) rfl
theorem w_339 : Jvm.Cond.methodLink "CycleGroups" (126 : Nat) ({ cls := "CycleGroups", name := "leastMultiple", desc := "(JI)J" } : Jvm.MethodName) ∈ tg := tg_of (List.mem_append_right _ (List.mem_append_right _ (List.mem_append_left _ (List.mem_of_getElem? (l := tables_1_2) (i := 99) (by rfl))))) rfl
theorem w_340 : Jvm.Cond.static ({ cls := "CycleGroups", name := "leastMultiple", desc := "(JI)J" } : Jvm.MethodName) ∈ tg := tg_of (List.mem_append_right _ (List.mem_append_right _ (List.mem_append_left _ (List.mem_of_getElem? (l := tables_1_2) (i := 100) (by rfl))))) rfl
theorem w_341 : Jvm.Cond.code ({ cls := "CycleGroups", name := "leastMultiple", desc := "(JI)J" } : Jvm.MethodName) prog_1_method_28_code (4 : Nat) (Option.some Jvm.ClassFile.FieldType.long) ∈ tg := tg_of (List.mem_append_right _ (List.mem_append_right _ (List.mem_append_left _ (List.mem_of_getElem? (l := tables_1_2) (i := 101) (by rfl))))) rfl
theorem w_342 : Jvm.Cond.methodLink "CycleGroupsLaw" (9 : Nat) ({ cls := "CycleGroupsLaw", name := "cell", desc := "([II)I" } : Jvm.MethodName) ∈ tg := tg_of (List.mem_append_right _ (List.mem_append_right _ (List.mem_append_left _ (List.mem_of_getElem? (l := tables_1_2) (i := 102) (by rfl))))) rfl
theorem w_343 : Jvm.Cond.static ({ cls := "CycleGroupsLaw", name := "cell", desc := "([II)I" } : Jvm.MethodName) ∈ tg := tg_of (List.mem_append_right _ (List.mem_append_right _ (List.mem_append_left _ (List.mem_of_getElem? (l := tables_1_2) (i := 103) (by rfl))))) rfl
theorem w_344 : Jvm.Cond.code ({ cls := "CycleGroupsLaw", name := "cell", desc := "([II)I" } : Jvm.MethodName) method_2_code (2 : Nat) (Option.some Jvm.ClassFile.FieldType.int) ∈ tg := tg_of (List.mem_append_right _ (List.mem_append_right _ (List.mem_append_left _ (List.mem_of_getElem? (l := tables_1_2) (i := 104) (by rfl))))) rfl
theorem w_345 : Jvm.Cond.classLink "CycleGroupsLaw" (18 : Nat) "CycleGroupsModel" ∈ tg := tg_of (List.mem_append_right _ (List.mem_append_right _ (List.mem_append_left _ (List.mem_of_getElem? (l := tables_1_2) (i := 105) (by rfl))))) rfl
theorem w_346 : Jvm.Cond.instantiable "CycleGroupsModel" (24 : Nat) ∈ tg := tg_of (List.mem_append_right _ (List.mem_append_right _ (List.mem_append_left _ (List.mem_of_getElem? (l := tables_1_2) (i := 106) (by rfl))))) rfl
theorem w_347 : Jvm.Cond.methodLink "CycleGroupsLaw" (20 : Nat) ({ cls := "CycleGroupsModel", name := "<init>", desc := "(I)V" } : Jvm.MethodName) ∈ tg := tg_of (List.mem_append_right _ (List.mem_append_right _ (List.mem_append_left _ (List.mem_of_getElem? (l := tables_1_2) (i := 107) (by rfl))))) rfl
theorem w_348 : Jvm.Cond.instanceMethod ({ cls := "CycleGroupsModel", name := "<init>", desc := "(I)V" } : Jvm.MethodName) ∈ tg := tg_of (List.mem_append_right _ (List.mem_append_right _ (List.mem_append_left _ (List.mem_of_getElem? (l := tables_1_2) (i := 108) (by rfl))))) rfl
theorem w_349 : Jvm.Cond.code ({ cls := "CycleGroupsModel", name := "<init>", desc := "(I)V" } : Jvm.MethodName) prog_7_method_1_code (2 : Nat) (Option.none : Option Jvm.ClassFile.FieldType) ∈ tg := tg_of (List.mem_append_right _ (List.mem_append_right _ (List.mem_append_left _ (List.mem_of_getElem? (l := tables_1_2) (i := 109) (by rfl))))) rfl
theorem w_350 : Jvm.Cond.methodLink "CycleGroupsModel" (1 : Nat) ({ cls := "java/lang/Object", name := "<init>", desc := "()V" } : Jvm.MethodName) ∈ tg := tg_of (List.mem_append_right _ (List.mem_append_right _ (List.mem_append_left _ (List.mem_of_getElem? (l := tables_1_2) (i := 110) (by rfl))))) rfl
theorem w_351 : Jvm.Cond.fieldLink "CycleGroupsModel" (69 : Nat) "CycleGroupsModel" "thrown" "I" ∈ tg := tg_of (List.mem_append_right _ (List.mem_append_right _ (List.mem_append_left _ (List.mem_of_getElem? (l := tables_1_2) (i := 111) (by rfl))))) rfl
theorem w_352 : Jvm.Cond.fieldLink "CycleGroupsModel" (65 : Nat) "CycleGroupsModel" "places" "I" ∈ tg := tg_of (List.mem_append_right _ (List.mem_append_right _ (List.mem_append_left _ (List.mem_of_getElem? (l := tables_1_2) (i := 112) (by rfl))))) rfl
theorem w_353 : Jvm.Cond.fieldLink "CycleGroupsModel" (75 : Nat) "CycleGroupsModel" "moves" "I" ∈ tg := tg_of (List.mem_append_right _ (List.mem_append_right _ (List.mem_append_left _ (List.mem_of_getElem? (l := tables_1_2) (i := 113) (by rfl))))) rfl
theorem w_354 : Jvm.Cond.fieldLink "CycleGroupsModel" (7 : Nat) "CycleGroupsModel" "move" "[I" ∈ tg := tg_of (List.mem_append_right _ (List.mem_append_right _ (List.mem_append_left _ (List.mem_of_getElem? (l := tables_1_2) (i := 114) (by rfl))))) rfl
theorem w_355 : Jvm.Cond.fieldLink "CycleGroupsModel" (72 : Nat) "CycleGroupsModel" "states" "I" ∈ tg := tg_of (List.mem_append_right _ (List.mem_append_right _ (List.mem_append_left _ (List.mem_of_getElem? (l := tables_1_2) (i := 115) (by rfl))))) rfl
theorem w_356 : Jvm.Cond.fieldLink "CycleGroupsModel" (13 : Nat) "CycleGroupsModel" "state" "[I" ∈ tg := tg_of (List.mem_append_right _ (List.mem_append_right _ (List.mem_append_left _ (List.mem_of_getElem? (l := tables_1_2) (i := 116) (by rfl))))) rfl
theorem w_357 : Jvm.Cond.fieldLink "CycleGroupsModel" (82 : Nat) "CycleGroupsModel" "isKnown" "Z" ∈ tg := tg_of (List.mem_append_right _ (List.mem_append_right _ (List.mem_append_left _ (List.mem_of_getElem? (l := tables_1_2) (i := 117) (by rfl))))) rfl
theorem w_358 : Jvm.Cond.fieldLink "CycleGroupsModel" (16 : Nat) "CycleGroupsModel" "rows" "[I" ∈ tg := tg_of (List.mem_append_right _ (List.mem_append_right _ (List.mem_append_left _ (List.mem_of_getElem? (l := tables_1_2) (i := 118) (by rfl))))) rfl
theorem w_359 : Jvm.Cond.fieldLink "CycleGroupsModel" (19 : Nat) "CycleGroupsModel" "has" "[Z" ∈ tg := tg_of (List.mem_append_right _ (List.mem_append_right _ (List.mem_append_left _ (List.mem_of_getElem? (l := tables_1_2) (i := 119) (by rfl))))) rfl
theorem w_360 : Jvm.Cond.fieldLink "CycleGroupsModel" (97 : Nat) "CycleGroupsModel" "makers" "I" ∈ tg := tg_of (List.mem_append_right _ (List.mem_append_right _ (List.mem_append_left _ (List.mem_of_getElem? (l := tables_1_2) (i := 120) (by rfl))))) rfl
theorem w_361 : Jvm.Cond.fieldLink "CycleGroupsModel" (23 : Nat) "CycleGroupsModel" "maker" "[I" ∈ tg := tg_of (List.mem_append_right _ (List.mem_append_right _ (List.mem_append_left _ (List.mem_of_getElem? (l := tables_1_2) (i := 121) (by rfl))))) rfl
theorem w_362 : Jvm.Cond.fieldLink "CycleGroupsModel" (26 : Nat) "CycleGroupsModel" "low" "[I" ∈ tg := tg_of (List.mem_append_right _ (List.mem_append_right _ (List.mem_append_left _ (List.mem_of_getElem? (l := tables_1_2) (i := 122) (by rfl))))) rfl
theorem w_363 : Jvm.Cond.fieldLink "CycleGroupsModel" (29 : Nat) "CycleGroupsModel" "high" "[I" ∈ tg := tg_of (List.mem_append_right _ (List.mem_append_right _ (List.mem_append_left _ (List.mem_of_getElem? (l := tables_1_2) (i := 123) (by rfl))))) rfl
theorem w_364 : Jvm.Cond.fieldLink "CycleGroupsModel" (32 : Nat) "CycleGroupsModel" "label" "[I" ∈ tg := tg_of (List.mem_append_right _ (List.mem_append_right _ (List.mem_append_left _ (List.mem_of_getElem? (l := tables_1_2) (i := 124) (by rfl))))) rfl
theorem w_365 : Jvm.Cond.fieldLink "CycleGroupsModel" (35 : Nat) "CycleGroupsModel" "isUsed" "[Z" ∈ tg := tg_of (List.mem_append_right _ (List.mem_append_right _ (List.mem_append_left _ (List.mem_of_getElem? (l := tables_1_2) (i := 125) (by rfl))))) rfl
theorem w_366 : Jvm.Cond.fieldLink "CycleGroupsModel" (38 : Nat) "CycleGroupsModel" "queue" "[I" ∈ tg := tg_of (List.mem_append_right _ (List.mem_append_right _ (List.mem_append_left _ (List.mem_of_getElem? (l := tables_1_2) (i := 126) (by rfl))))) rfl
theorem w_367 : Jvm.Cond.fieldLink "CycleGroupsModel" (41 : Nat) "CycleGroupsModel" "by" "[I" ∈ tg := tg_of (List.mem_append_right _ (List.mem_append_right _ (List.mem_append_left _ (List.mem_of_getElem? (l := tables_1_2) (i := 127) (by rfl))))) rfl
theorem w_368 : Jvm.Cond.fieldLink "CycleGroupsModel" (44 : Nat) "CycleGroupsModel" "seen" "[Z" ∈ tg := tg_of (List.mem_append_right _ (List.mem_append_right _ (List.mem_append_left _ (List.mem_of_getElem? (l := tables_1_2) (i := 128) (by rfl))))) rfl
theorem w_369 : Jvm.Cond.fieldLink "CycleGroupsModel" (47 : Nat) "CycleGroupsModel" "work" "[I" ∈ tg := tg_of (List.mem_append_right _ (List.mem_append_right _ (List.mem_append_left _ (List.mem_of_getElem? (l := tables_1_2) (i := 129) (by rfl))))) rfl
theorem w_370 : Jvm.Cond.fieldLink "CycleGroupsModel" (50 : Nat) "CycleGroupsModel" "round" "[I" ∈ tg := tg_of (List.mem_append_right _ (List.mem_append_right _ (List.mem_append_left _ (List.mem_of_getElem? (l := tables_1_2) (i := 130) (by rfl))))) rfl
theorem w_371 : Jvm.Cond.fieldLink "CycleGroupsModel" (53 : Nat) "CycleGroupsModel" "sets" "[I" ∈ tg := tg_of (List.mem_append_right _ (List.mem_append_right _ (List.mem_append_left _ (List.mem_of_getElem? (l := tables_1_2) (i := 131) (by rfl))))) rfl
theorem w_372 : Jvm.Cond.fieldLink "CycleGroupsModel" (56 : Nat) "CycleGroupsModel" "digits" "[I" ∈ tg := tg_of (List.mem_append_right _ (List.mem_append_right _ (List.mem_append_left _ (List.mem_of_getElem? (l := tables_1_2) (i := 132) (by rfl))))) rfl
theorem w_373 : Jvm.Cond.fieldLink "CycleGroupsModel" (59 : Nat) "CycleGroupsModel" "ring" "[I" ∈ tg := tg_of (List.mem_append_right _ (List.mem_append_right _ (List.mem_append_left _ (List.mem_of_getElem? (l := tables_1_2) (i := 133) (by rfl))))) rfl
theorem w_374 : Jvm.Cond.fieldLink "CycleGroupsModel" (62 : Nat) "CycleGroupsModel" "more" "[I" ∈ tg := tg_of (List.mem_append_right _ (List.mem_append_right _ (List.mem_append_left _ (List.mem_of_getElem? (l := tables_1_2) (i := 134) (by rfl))))) rfl
theorem w_375 : Jvm.Cond.lays "CycleGroupsModel" "CycleGroupsModel" "thrown" "I" ∈ tg := tg_of (List.mem_append_right _ (List.mem_append_right _ (List.mem_append_left _ (List.mem_of_getElem? (l := tables_1_2) (i := 135) (by rfl))))) rfl
theorem w_377 : Jvm.Cond.laysFinal "CycleGroupsModel" "CycleGroupsModel" "places" "I" ∈ tg := tg_of (List.mem_append_right _ (List.mem_append_right _ (List.mem_append_left _ (List.mem_of_getElem? (l := tables_1_2) (i := 137) (by rfl))))) rfl
theorem w_379 : Jvm.Cond.lays "CycleGroupsModel" "CycleGroupsModel" "moves" "I" ∈ tg := tg_of (List.mem_append_right _ (List.mem_append_right _ (List.mem_append_left _ (List.mem_of_getElem? (l := tables_1_2) (i := 139) (by rfl))))) rfl
theorem w_381 : Jvm.Cond.laysFinal "CycleGroupsModel" "CycleGroupsModel" "move" "[I" ∈ tg := tg_of (List.mem_append_right _ (List.mem_append_right _ (List.mem_append_left _ (List.mem_of_getElem? (l := tables_1_2) (i := 141) (by rfl))))) rfl
theorem w_383 : Jvm.Cond.lays "CycleGroupsModel" "CycleGroupsModel" "states" "I" ∈ tg := tg_of (List.mem_append_right _ (List.mem_append_right _ (List.mem_append_left _ (List.mem_of_getElem? (l := tables_1_2) (i := 143) (by rfl))))) rfl
theorem w_385 : Jvm.Cond.laysFinal "CycleGroupsModel" "CycleGroupsModel" "state" "[I" ∈ tg := tg_of (List.mem_append_right _ (List.mem_append_right _ (List.mem_append_left _ (List.mem_of_getElem? (l := tables_1_2) (i := 145) (by rfl))))) rfl
theorem w_387 : Jvm.Cond.lays "CycleGroupsModel" "CycleGroupsModel" "isKnown" "Z" ∈ tg := tg_of (List.mem_append_right _ (List.mem_append_right _ (List.mem_append_left _ (List.mem_of_getElem? (l := tables_1_2) (i := 147) (by rfl))))) rfl
theorem w_389 : Jvm.Cond.laysFinal "CycleGroupsModel" "CycleGroupsModel" "rows" "[I" ∈ tg := tg_of (List.mem_append_right _ (List.mem_append_right _ (List.mem_append_left _ (List.mem_of_getElem? (l := tables_1_2) (i := 149) (by rfl))))) rfl
theorem w_391 : Jvm.Cond.laysFinal "CycleGroupsModel" "CycleGroupsModel" "has" "[Z" ∈ tg := tg_of (List.mem_append_right _ (List.mem_append_right _ (List.mem_append_left _ (List.mem_of_getElem? (l := tables_1_2) (i := 151) (by rfl))))) rfl
theorem w_393 : Jvm.Cond.lays "CycleGroupsModel" "CycleGroupsModel" "makers" "I" ∈ tg := tg_of (List.mem_append_right _ (List.mem_append_right _ (List.mem_append_left _ (List.mem_of_getElem? (l := tables_1_2) (i := 153) (by rfl))))) rfl
theorem w_395 : Jvm.Cond.laysFinal "CycleGroupsModel" "CycleGroupsModel" "maker" "[I" ∈ tg := tg_of (List.mem_append_right _ (List.mem_append_right _ (List.mem_append_left _ (List.mem_of_getElem? (l := tables_1_2) (i := 155) (by rfl))))) rfl
theorem w_397 : Jvm.Cond.laysFinal "CycleGroupsModel" "CycleGroupsModel" "low" "[I" ∈ tg := tg_of (List.mem_append_right _ (List.mem_append_right _ (List.mem_append_left _ (List.mem_of_getElem? (l := tables_1_2) (i := 157) (by rfl))))) rfl
theorem w_399 : Jvm.Cond.laysFinal "CycleGroupsModel" "CycleGroupsModel" "high" "[I" ∈ tg := tg_of (List.mem_append_right _ (List.mem_append_right _ (List.mem_append_left _ (List.mem_of_getElem? (l := tables_1_2) (i := 159) (by rfl))))) rfl
theorem w_401 : Jvm.Cond.laysFinal "CycleGroupsModel" "CycleGroupsModel" "label" "[I" ∈ tg := tg_of (List.mem_append_right _ (List.mem_append_right _ (List.mem_append_left _ (List.mem_of_getElem? (l := tables_1_2) (i := 161) (by rfl))))) rfl
theorem w_403 : Jvm.Cond.laysFinal "CycleGroupsModel" "CycleGroupsModel" "isUsed" "[Z" ∈ tg := tg_of (List.mem_append_right _ (List.mem_append_right _ (List.mem_append_left _ (List.mem_of_getElem? (l := tables_1_2) (i := 163) (by rfl))))) rfl
theorem w_405 : Jvm.Cond.laysFinal "CycleGroupsModel" "CycleGroupsModel" "queue" "[I" ∈ tg := tg_of (List.mem_append_right _ (List.mem_append_right _ (List.mem_append_left _ (List.mem_of_getElem? (l := tables_1_2) (i := 165) (by rfl))))) rfl
theorem w_407 : Jvm.Cond.laysFinal "CycleGroupsModel" "CycleGroupsModel" "by" "[I" ∈ tg := tg_of (List.mem_append_right _ (List.mem_append_right _ (List.mem_append_left _ (List.mem_of_getElem? (l := tables_1_2) (i := 167) (by rfl))))) rfl
theorem w_409 : Jvm.Cond.laysFinal "CycleGroupsModel" "CycleGroupsModel" "seen" "[Z" ∈ tg := tg_of (List.mem_append_right _ (List.mem_append_right _ (List.mem_append_left _ (List.mem_of_getElem? (l := tables_1_2) (i := 169) (by rfl))))) rfl
theorem w_411 : Jvm.Cond.laysFinal "CycleGroupsModel" "CycleGroupsModel" "work" "[I" ∈ tg := tg_of (List.mem_append_right _ (List.mem_append_right _ (List.mem_append_left _ (List.mem_of_getElem? (l := tables_1_2) (i := 171) (by rfl))))) rfl
theorem w_413 : Jvm.Cond.laysFinal "CycleGroupsModel" "CycleGroupsModel" "round" "[I" ∈ tg := tg_of (List.mem_append_right _ (List.mem_append_right _ (List.mem_append_left _ (List.mem_of_getElem? (l := tables_1_2) (i := 173) (by rfl))))) rfl
theorem w_415 : Jvm.Cond.laysFinal "CycleGroupsModel" "CycleGroupsModel" "sets" "[I" ∈ tg := tg_of (List.mem_append_right _ (List.mem_append_right _ (List.mem_append_left _ (List.mem_of_getElem? (l := tables_1_2) (i := 175) (by rfl))))) rfl
theorem w_417 : Jvm.Cond.laysFinal "CycleGroupsModel" "CycleGroupsModel" "digits" "[I" ∈ tg := tg_of (List.mem_append_right _ (List.mem_append_right _ (List.mem_append_left _ (List.mem_of_getElem? (l := tables_1_2) (i := 177) (by rfl))))) rfl
theorem w_419 : Jvm.Cond.laysFinal "CycleGroupsModel" "CycleGroupsModel" "ring" "[I" ∈ tg := tg_of (List.mem_append_right _ (List.mem_append_right _ (List.mem_append_left _ (List.mem_of_getElem? (l := tables_1_2) (i := 179) (by rfl))))) rfl
theorem w_421 : Jvm.Cond.laysFinal "CycleGroupsModel" "CycleGroupsModel" "more" "[I" ∈ tg := tg_of (List.mem_append_right _ (List.mem_append_right _ (List.mem_append_left _ (List.mem_of_getElem? (l := tables_1_2) (i := 181) (by rfl))))) rfl
theorem w_424 : Jvm.Cond.arrayClass Jvm.ClassFile.FieldType.boolean ∈ tg := tg_of (List.mem_append_right _ (List.mem_append_right _ (List.mem_append_left _ (List.mem_of_getElem? (l := tables_1_2) (i := 184) (by rfl))))) rfl
theorem w_425 : Jvm.Cond.methodLink "CycleGroupsLaw" (25 : Nat) ({ cls := "CycleGroupsModel", name := "move", desc := "()I" } : Jvm.MethodName) ∈ tg := tg_of (List.mem_append_right _ (List.mem_append_right _ (List.mem_append_left _ (List.mem_of_getElem? (l := tables_1_2) (i := 185) (by rfl))))) rfl
theorem w_426 : Jvm.Cond.instanceMethod ({ cls := "CycleGroupsModel", name := "move", desc := "()I" } : Jvm.MethodName) ∈ tg := tg_of (List.mem_append_right _ (List.mem_append_right _ (List.mem_append_left _ (List.mem_of_getElem? (l := tables_1_2) (i := 186) (by rfl))))) rfl
theorem w_427 : Jvm.Cond.selects "CycleGroupsModel" ({ cls := "CycleGroupsModel", name := "move", desc := "()I" } : Jvm.MethodName) ({ cls := "CycleGroupsModel", name := "move", desc := "()I" } : Jvm.MethodName) ∈ tg := tg_of (List.mem_append_right _ (List.mem_append_right _ (List.mem_append_left _ (List.mem_of_getElem? (l := tables_1_2) (i := 187) (by rfl))))) rfl
theorem w_428 : Jvm.Cond.code ({ cls := "CycleGroupsModel", name := "move", desc := "()I" } : Jvm.MethodName) prog_7_method_5_code (2 : Nat) (Option.some Jvm.ClassFile.FieldType.int) ∈ tg := tg_of (List.mem_append_right _ (List.mem_append_right _ (List.mem_append_left _ (List.mem_of_getElem? (l := tables_1_2) (i := 188) (by rfl))))) rfl
theorem w_429 : Jvm.Cond.methodLink "CycleGroupsLaw" (30 : Nat) ({ cls := "CycleGroupsModel", name := "cycle", desc := "(III)Z" } : Jvm.MethodName) ∈ tg := tg_of (List.mem_append_right _ (List.mem_append_right _ (List.mem_append_left _ (List.mem_of_getElem? (l := tables_1_2) (i := 189) (by rfl))))) rfl
theorem w_430 : Jvm.Cond.instanceMethod ({ cls := "CycleGroupsModel", name := "cycle", desc := "(III)Z" } : Jvm.MethodName) ∈ tg := tg_of (List.mem_append_right _ (List.mem_append_right _ (List.mem_append_left _ (List.mem_of_getElem? (l := tables_1_2) (i := 190) (by rfl))))) rfl
theorem w_431 : Jvm.Cond.selects "CycleGroupsModel" ({ cls := "CycleGroupsModel", name := "cycle", desc := "(III)Z" } : Jvm.MethodName) ({ cls := "CycleGroupsModel", name := "cycle", desc := "(III)Z" } : Jvm.MethodName) ∈ tg := tg_of (List.mem_append_right _ (List.mem_append_right _ (List.mem_append_left _ (List.mem_of_getElem? (l := tables_1_2) (i := 191) (by rfl))))) rfl
theorem w_432 : Jvm.Cond.code ({ cls := "CycleGroupsModel", name := "cycle", desc := "(III)Z" } : Jvm.MethodName) prog_7_method_6_code (4 : Nat) (Option.some Jvm.ClassFile.FieldType.boolean) ∈ tg := tg_of (List.mem_append_right _ (List.mem_append_right _ (List.mem_append_left _ (List.mem_of_getElem? (l := tables_1_2) (i := 192) (by rfl))))) rfl
theorem w_433 : Jvm.Cond.methodLink "CycleGroupsModel" (78 : Nat) ({ cls := "CycleGroupsModel", name := "isPlace", desc := "(I)Z" } : Jvm.MethodName) ∈ tg := tg_of (List.mem_append_right _ (List.mem_append_right _ (List.mem_append_left _ (List.mem_of_getElem? (l := tables_1_2) (i := 193) (by rfl))))) rfl
theorem w_435 : Jvm.Cond.instanceMethod ({ cls := "CycleGroupsModel", name := "isPlace", desc := "(I)Z" } : Jvm.MethodName) ∈ tg := tg_of (List.mem_append_right _ (List.mem_append_right _ (List.mem_append_left _ (List.mem_of_getElem? (l := tables_1_2) (i := 195) (by rfl))))) rfl
theorem w_436 : Jvm.Cond.code ({ cls := "CycleGroupsModel", name := "isPlace", desc := "(I)Z" } : Jvm.MethodName) prog_7_method_3_code (2 : Nat) (Option.some Jvm.ClassFile.FieldType.boolean) ∈ tg := tg_of (List.mem_append_right _ (List.mem_append_right _ (List.mem_append_left _ (List.mem_of_getElem? (l := tables_1_2) (i := 196) (by rfl))))) rfl
theorem w_437 : Jvm.Cond.methodLink "CycleGroupsLaw" (64 : Nat) ({ cls := "CycleGroupsModel", name := "state", desc := "()I" } : Jvm.MethodName) ∈ tg := tg_of (List.mem_append_right _ (List.mem_append_right _ (List.mem_append_left _ (List.mem_of_getElem? (l := tables_1_2) (i := 197) (by rfl))))) rfl
theorem w_438 : Jvm.Cond.instanceMethod ({ cls := "CycleGroupsModel", name := "state", desc := "()I" } : Jvm.MethodName) ∈ tg := tg_of (List.mem_append_right _ (List.mem_append_right _ (List.mem_append_left _ (List.mem_of_getElem? (l := tables_1_2) (i := 198) (by rfl))))) rfl
theorem w_439 : Jvm.Cond.selects "CycleGroupsModel" ({ cls := "CycleGroupsModel", name := "state", desc := "()I" } : Jvm.MethodName) ({ cls := "CycleGroupsModel", name := "state", desc := "()I" } : Jvm.MethodName) ∈ tg := tg_of (List.mem_append_right _ (List.mem_append_right _ (List.mem_append_left _ (List.mem_of_getElem? (l := tables_1_2) (i := 199) (by rfl))))) rfl
theorem w_440 : Jvm.Cond.code ({ cls := "CycleGroupsModel", name := "state", desc := "()I" } : Jvm.MethodName) prog_7_method_7_code (2 : Nat) (Option.some Jvm.ClassFile.FieldType.int) ∈ tg := tg_of (List.mem_append_right _ (List.mem_append_right _ (List.mem_append_left _ (List.mem_of_getElem? (l := tables_1_2) (i := 200) (by rfl))))) rfl
theorem w_441 : Jvm.Cond.methodLink "CycleGroupsLaw" (69 : Nat) ({ cls := "CycleGroupsModel", name := "apply", desc := "(II)Z" } : Jvm.MethodName) ∈ tg := tg_of (List.mem_append_right _ (List.mem_append_right _ (List.mem_append_left _ (List.mem_of_getElem? (l := tables_1_2) (i := 201) (by rfl))))) rfl
theorem w_442 : Jvm.Cond.instanceMethod ({ cls := "CycleGroupsModel", name := "apply", desc := "(II)Z" } : Jvm.MethodName) ∈ tg := tg_of (List.mem_append_right _ (List.mem_append_right _ (List.mem_append_left _ (List.mem_of_getElem? (l := tables_1_2) (i := 202) (by rfl))))) rfl
theorem w_443 : Jvm.Cond.selects "CycleGroupsModel" ({ cls := "CycleGroupsModel", name := "apply", desc := "(II)Z" } : Jvm.MethodName) ({ cls := "CycleGroupsModel", name := "apply", desc := "(II)Z" } : Jvm.MethodName) ∈ tg := tg_of (List.mem_append_right _ (List.mem_append_right _ (List.mem_append_left _ (List.mem_of_getElem? (l := tables_1_2) (i := 203) (by rfl))))) rfl
theorem w_444 : Jvm.Cond.code ({ cls := "CycleGroupsModel", name := "apply", desc := "(II)Z" } : Jvm.MethodName) prog_7_method_9_code (3 : Nat) (Option.some Jvm.ClassFile.FieldType.boolean) ∈ tg := tg_of (List.mem_append_right _ (List.mem_append_right _ (List.mem_append_left _ (List.mem_of_getElem? (l := tables_1_2) (i := 204) (by rfl))))) rfl
theorem w_445 : Jvm.Cond.methodLink "CycleGroupsModel" (86 : Nat) ({ cls := "CycleGroupsModel", name := "isState", desc := "(I)Z" } : Jvm.MethodName) ∈ tg := tg_of (List.mem_append_right _ (List.mem_append_right _ (List.mem_append_left _ (List.mem_of_getElem? (l := tables_1_2) (i := 205) (by rfl))))) rfl
theorem w_447 : Jvm.Cond.instanceMethod ({ cls := "CycleGroupsModel", name := "isState", desc := "(I)Z" } : Jvm.MethodName) ∈ tg := tg_of (List.mem_append_right _ (List.mem_append_right _ (List.mem_append_left _ (List.mem_of_getElem? (l := tables_1_2) (i := 207) (by rfl))))) rfl
theorem w_448 : Jvm.Cond.code ({ cls := "CycleGroupsModel", name := "isState", desc := "(I)Z" } : Jvm.MethodName) prog_7_method_4_code (2 : Nat) (Option.some Jvm.ClassFile.FieldType.boolean) ∈ tg := tg_of (List.mem_append_right _ (List.mem_append_right _ (List.mem_append_left _ (List.mem_of_getElem? (l := tables_1_2) (i := 208) (by rfl))))) rfl
theorem w_449 : Jvm.Cond.methodLink "CycleGroupsModel" (89 : Nat) ({ cls := "CycleGroupsModel", name := "applyMove", desc := "(II)V" } : Jvm.MethodName) ∈ tg := tg_of (List.mem_append_right _ (List.mem_append_right _ (List.mem_append_left _ (List.mem_of_getElem? (l := tables_1_2) (i := 209) (by rfl))))) rfl
theorem w_451 : Jvm.Cond.instanceMethod ({ cls := "CycleGroupsModel", name := "applyMove", desc := "(II)V" } : Jvm.MethodName) ∈ tg := tg_of (List.mem_append_right _ (List.mem_append_right _ (List.mem_append_left _ (List.mem_of_getElem? (l := tables_1_2) (i := 211) (by rfl))))) rfl
theorem w_452 : Jvm.Cond.code ({ cls := "CycleGroupsModel", name := "applyMove", desc := "(II)V" } : Jvm.MethodName) prog_7_method_8_code (4 : Nat) (Option.none : Option Jvm.ClassFile.FieldType) ∈ tg := tg_of (List.mem_append_right _ (List.mem_append_right _ (List.mem_append_left _ (List.mem_of_getElem? (l := tables_1_2) (i := 212) (by rfl))))) rfl
theorem w_453 : Jvm.Cond.methodLink "CycleGroupsLaw" (73 : Nat) ({ cls := "CycleGroupsModel", name := "exchange", desc := "(III)Z" } : Jvm.MethodName) ∈ tg := tg_of (List.mem_append_right _ (List.mem_append_right _ (List.mem_append_left _ (List.mem_of_getElem? (l := tables_1_2) (i := 213) (by rfl))))) rfl
theorem w_454 : Jvm.Cond.instanceMethod ({ cls := "CycleGroupsModel", name := "exchange", desc := "(III)Z" } : Jvm.MethodName) ∈ tg := tg_of (List.mem_append_right _ (List.mem_append_right _ (List.mem_append_left _ (List.mem_of_getElem? (l := tables_1_2) (i := 214) (by rfl))))) rfl
theorem w_455 : Jvm.Cond.selects "CycleGroupsModel" ({ cls := "CycleGroupsModel", name := "exchange", desc := "(III)Z" } : Jvm.MethodName) ({ cls := "CycleGroupsModel", name := "exchange", desc := "(III)Z" } : Jvm.MethodName) ∈ tg := tg_of (List.mem_append_right _ (List.mem_append_right _ (List.mem_append_left _ (List.mem_of_getElem? (l := tables_1_2) (i := 215) (by rfl))))) rfl
theorem w_456 : Jvm.Cond.code ({ cls := "CycleGroupsModel", name := "exchange", desc := "(III)Z" } : Jvm.MethodName) prog_7_method_10_code (6 : Nat) (Option.some Jvm.ClassFile.FieldType.boolean) ∈ tg := tg_of (List.mem_append_right _ (List.mem_append_right _ (List.mem_append_left _ (List.mem_of_getElem? (l := tables_1_2) (i := 216) (by rfl))))) rfl
theorem w_457 : Jvm.Cond.methodLink "CycleGroupsLaw" (80 : Nat) ({ cls := "CycleGroupsModel", name := "scramble", desc := "(IJI)Z" } : Jvm.MethodName) ∈ tg := tg_of (List.mem_append_right _ (List.mem_append_right _ (List.mem_append_left _ (List.mem_of_getElem? (l := tables_1_2) (i := 217) (by rfl))))) rfl
theorem w_458 : Jvm.Cond.instanceMethod ({ cls := "CycleGroupsModel", name := "scramble", desc := "(IJI)Z" } : Jvm.MethodName) ∈ tg := tg_of (List.mem_append_right _ (List.mem_append_right _ (List.mem_append_left _ (List.mem_of_getElem? (l := tables_1_2) (i := 218) (by rfl))))) rfl
theorem w_459 : Jvm.Cond.selects "CycleGroupsModel" ({ cls := "CycleGroupsModel", name := "scramble", desc := "(IJI)Z" } : Jvm.MethodName) ({ cls := "CycleGroupsModel", name := "scramble", desc := "(IJI)Z" } : Jvm.MethodName) ∈ tg := tg_of (List.mem_append_right _ (List.mem_append_right _ (List.mem_append_left _ (List.mem_of_getElem? (l := tables_1_2) (i := 219) (by rfl))))) rfl
theorem w_460 : Jvm.Cond.code ({ cls := "CycleGroupsModel", name := "scramble", desc := "(IJI)Z" } : Jvm.MethodName) prog_7_method_11_code (8 : Nat) (Option.some Jvm.ClassFile.FieldType.boolean) ∈ tg := tg_of (List.mem_append_right _ (List.mem_append_right _ (List.mem_append_left _ (List.mem_of_getElem? (l := tables_1_2) (i := 220) (by rfl))))) rfl
theorem w_461 : Jvm.Cond.constantLong "CycleGroupsModel" (93 : Nat) (6364136223846793005 : Int64) ∈ tg := tg_of (List.mem_append_right _ (List.mem_append_right _ (List.mem_append_left _ (List.mem_of_getElem? (l := tables_1_2) (i := 221) (by rfl))))) rfl
theorem w_462 : Jvm.Cond.constantLong "CycleGroupsModel" (95 : Nat) (1442695040888963407 : Int64) ∈ tg := tg_of (List.mem_append_right _ (List.mem_append_right _ (List.mem_append_left _ (List.mem_of_getElem? (l := tables_1_2) (i := 222) (by rfl))))) rfl
theorem w_463 : Jvm.Cond.methodLink "CycleGroupsLaw" (84 : Nat) ({ cls := "CycleGroupsModel", name := "image", desc := "(II)I" } : Jvm.MethodName) ∈ tg := tg_of (List.mem_append_right _ (List.mem_append_right _ (List.mem_append_left _ (List.mem_of_getElem? (l := tables_1_2) (i := 223) (by rfl))))) rfl
theorem w_464 : Jvm.Cond.instanceMethod ({ cls := "CycleGroupsModel", name := "image", desc := "(II)I" } : Jvm.MethodName) ∈ tg := tg_of (List.mem_append_right _ (List.mem_append_right _ (List.mem_append_left _ (List.mem_of_getElem? (l := tables_1_2) (i := 224) (by rfl))))) rfl
theorem w_465 : Jvm.Cond.selects "CycleGroupsModel" ({ cls := "CycleGroupsModel", name := "image", desc := "(II)I" } : Jvm.MethodName) ({ cls := "CycleGroupsModel", name := "image", desc := "(II)I" } : Jvm.MethodName) ∈ tg := tg_of (List.mem_append_right _ (List.mem_append_right _ (List.mem_append_left _ (List.mem_of_getElem? (l := tables_1_2) (i := 225) (by rfl))))) rfl
theorem w_466 : Jvm.Cond.code ({ cls := "CycleGroupsModel", name := "image", desc := "(II)I" } : Jvm.MethodName) prog_7_method_12_code (3 : Nat) (Option.some Jvm.ClassFile.FieldType.int) ∈ tg := tg_of (List.mem_append_right _ (List.mem_append_right _ (List.mem_append_left _ (List.mem_of_getElem? (l := tables_1_2) (i := 226) (by rfl))))) rfl
theorem w_467 : Jvm.Cond.methodLink "CycleGroupsLaw" (43 : Nat) ({ cls := "CycleGroupsModel", name := "spread", desc := "(I)I" } : Jvm.MethodName) ∈ tg := tg_of (List.mem_append_right _ (List.mem_append_right _ (List.mem_append_left _ (List.mem_of_getElem? (l := tables_1_2) (i := 227) (by rfl))))) rfl
theorem w_468 : Jvm.Cond.instanceMethod ({ cls := "CycleGroupsModel", name := "spread", desc := "(I)I" } : Jvm.MethodName) ∈ tg := tg_of (List.mem_append_right _ (List.mem_append_right _ (List.mem_append_left _ (List.mem_of_getElem? (l := tables_1_2) (i := 228) (by rfl))))) rfl
theorem w_469 : Jvm.Cond.selects "CycleGroupsModel" ({ cls := "CycleGroupsModel", name := "spread", desc := "(I)I" } : Jvm.MethodName) ({ cls := "CycleGroupsModel", name := "spread", desc := "(I)I" } : Jvm.MethodName) ∈ tg := tg_of (List.mem_append_right _ (List.mem_append_right _ (List.mem_append_left _ (List.mem_of_getElem? (l := tables_1_2) (i := 229) (by rfl))))) rfl
theorem w_470 : Jvm.Cond.code ({ cls := "CycleGroupsModel", name := "spread", desc := "(I)I" } : Jvm.MethodName) prog_7_method_25_code (2 : Nat) (Option.some Jvm.ClassFile.FieldType.int) ∈ tg := tg_of (List.mem_append_right _ (List.mem_append_right _ (List.mem_append_left _ (List.mem_of_getElem? (l := tables_1_2) (i := 230) (by rfl))))) rfl
theorem w_471 : Jvm.Cond.methodLink "CycleGroupsModel" (135 : Nat) ({ cls := "CycleGroupsModel", name := "know", desc := "()V" } : Jvm.MethodName) ∈ tg := tg_of (List.mem_append_right _ (List.mem_append_right _ (List.mem_append_left _ (List.mem_of_getElem? (l := tables_1_2) (i := 231) (by rfl))))) rfl
theorem w_473 : Jvm.Cond.instanceMethod ({ cls := "CycleGroupsModel", name := "know", desc := "()V" } : Jvm.MethodName) ∈ tg := tg_of (List.mem_append_right _ (List.mem_append_right _ (List.mem_append_left _ (List.mem_of_getElem? (l := tables_1_2) (i := 233) (by rfl))))) rfl
theorem w_474 : Jvm.Cond.code ({ cls := "CycleGroupsModel", name := "know", desc := "()V" } : Jvm.MethodName) prog_7_method_23_code (2 : Nat) (Option.none : Option Jvm.ClassFile.FieldType) ∈ tg := tg_of (List.mem_append_right _ (List.mem_append_right _ (List.mem_append_left _ (List.mem_of_getElem? (l := tables_1_2) (i := 234) (by rfl))))) rfl
theorem w_475 : Jvm.Cond.methodLink "CycleGroupsModel" (128 : Nat) ({ cls := "CycleGroupsModel", name := "spreadOf", desc := "(I)V" } : Jvm.MethodName) ∈ tg := tg_of (List.mem_append_right _ (List.mem_append_right _ (List.mem_append_left _ (List.mem_of_getElem? (l := tables_1_2) (i := 235) (by rfl))))) rfl
theorem w_477 : Jvm.Cond.instanceMethod ({ cls := "CycleGroupsModel", name := "spreadOf", desc := "(I)V" } : Jvm.MethodName) ∈ tg := tg_of (List.mem_append_right _ (List.mem_append_right _ (List.mem_append_left _ (List.mem_of_getElem? (l := tables_1_2) (i := 237) (by rfl))))) rfl
theorem w_478 : Jvm.Cond.code ({ cls := "CycleGroupsModel", name := "spreadOf", desc := "(I)V" } : Jvm.MethodName) prog_7_method_13_code (8 : Nat) (Option.none : Option Jvm.ClassFile.FieldType) ∈ tg := tg_of (List.mem_append_right _ (List.mem_append_right _ (List.mem_append_left _ (List.mem_of_getElem? (l := tables_1_2) (i := 238) (by rfl))))) rfl
theorem w_479 : Jvm.Cond.methodLink "CycleGroupsModel" (132 : Nat) ({ cls := "CycleGroupsModel", name := "nextPart", desc := "(I)V" } : Jvm.MethodName) ∈ tg := tg_of (List.mem_append_right _ (List.mem_append_right _ (List.mem_append_left _ (List.mem_of_getElem? (l := tables_1_2) (i := 239) (by rfl))))) rfl
theorem w_481 : Jvm.Cond.instanceMethod ({ cls := "CycleGroupsModel", name := "nextPart", desc := "(I)V" } : Jvm.MethodName) ∈ tg := tg_of (List.mem_append_right _ (List.mem_append_right _ (List.mem_append_right _ (List.mem_of_getElem? (l := tables_1_3) (i := 1) (by rfl))))) rfl
theorem w_482 : Jvm.Cond.code ({ cls := "CycleGroupsModel", name := "nextPart", desc := "(I)V" } : Jvm.MethodName) prog_7_method_22_code (5 : Nat) (Option.none : Option Jvm.ClassFile.FieldType) ∈ tg := tg_of (List.mem_append_right _ (List.mem_append_right _ (List.mem_append_right _ (List.mem_of_getElem? (l := tables_1_3) (i := 2) (by rfl))))) rfl
theorem w_483 : Jvm.Cond.methodLink "CycleGroupsModel" (122 : Nat) ({ cls := "CycleGroupsModel", name := "undo", desc := "(II)V" } : Jvm.MethodName) ∈ tg := tg_of (List.mem_append_right _ (List.mem_append_right _ (List.mem_append_right _ (List.mem_of_getElem? (l := tables_1_3) (i := 3) (by rfl))))) rfl
theorem w_485 : Jvm.Cond.instanceMethod ({ cls := "CycleGroupsModel", name := "undo", desc := "(II)V" } : Jvm.MethodName) ∈ tg := tg_of (List.mem_append_right _ (List.mem_append_right _ (List.mem_append_right _ (List.mem_of_getElem? (l := tables_1_3) (i := 5) (by rfl))))) rfl
theorem w_486 : Jvm.Cond.code ({ cls := "CycleGroupsModel", name := "undo", desc := "(II)V" } : Jvm.MethodName) prog_7_method_14_code (4 : Nat) (Option.none : Option Jvm.ClassFile.FieldType) ∈ tg := tg_of (List.mem_append_right _ (List.mem_append_right _ (List.mem_append_right _ (List.mem_of_getElem? (l := tables_1_3) (i := 6) (by rfl))))) rfl
theorem w_487 : Jvm.Cond.methodLink "CycleGroupsModel" (125 : Nat) ({ cls := "CycleGroupsModel", name := "keep", desc := "()V" } : Jvm.MethodName) ∈ tg := tg_of (List.mem_append_right _ (List.mem_append_right _ (List.mem_append_right _ (List.mem_of_getElem? (l := tables_1_3) (i := 7) (by rfl))))) rfl
theorem w_489 : Jvm.Cond.instanceMethod ({ cls := "CycleGroupsModel", name := "keep", desc := "()V" } : Jvm.MethodName) ∈ tg := tg_of (List.mem_append_right _ (List.mem_append_right _ (List.mem_append_right _ (List.mem_of_getElem? (l := tables_1_3) (i := 9) (by rfl))))) rfl
theorem w_490 : Jvm.Cond.code ({ cls := "CycleGroupsModel", name := "keep", desc := "()V" } : Jvm.MethodName) prog_7_method_19_code (13 : Nat) (Option.none : Option Jvm.ClassFile.FieldType) ∈ tg := tg_of (List.mem_append_right _ (List.mem_append_right _ (List.mem_append_right _ (List.mem_of_getElem? (l := tables_1_3) (i := 10) (by rfl))))) rfl
theorem w_491 : Jvm.Cond.methodLink "CycleGroupsModel" (100 : Nat) ({ cls := "CycleGroupsModel", name := "leastMoved", desc := "()I" } : Jvm.MethodName) ∈ tg := tg_of (List.mem_append_right _ (List.mem_append_right _ (List.mem_append_right _ (List.mem_of_getElem? (l := tables_1_3) (i := 11) (by rfl))))) rfl
theorem w_493 : Jvm.Cond.instanceMethod ({ cls := "CycleGroupsModel", name := "leastMoved", desc := "()I" } : Jvm.MethodName) ∈ tg := tg_of (List.mem_append_right _ (List.mem_append_right _ (List.mem_append_right _ (List.mem_of_getElem? (l := tables_1_3) (i := 13) (by rfl))))) rfl
theorem w_494 : Jvm.Cond.code ({ cls := "CycleGroupsModel", name := "leastMoved", desc := "()I" } : Jvm.MethodName) prog_7_method_15_code (2 : Nat) (Option.some Jvm.ClassFile.FieldType.int) ∈ tg := tg_of (List.mem_append_right _ (List.mem_append_right _ (List.mem_append_right _ (List.mem_of_getElem? (l := tables_1_3) (i := 14) (by rfl))))) rfl
theorem w_495 : Jvm.Cond.methodLink "CycleGroupsModel" (104 : Nat) ({ cls := "CycleGroupsModel", name := "walk", desc := "(II)Z" } : Jvm.MethodName) ∈ tg := tg_of (List.mem_append_right _ (List.mem_append_right _ (List.mem_append_right _ (List.mem_of_getElem? (l := tables_1_3) (i := 15) (by rfl))))) rfl
theorem w_497 : Jvm.Cond.instanceMethod ({ cls := "CycleGroupsModel", name := "walk", desc := "(II)Z" } : Jvm.MethodName) ∈ tg := tg_of (List.mem_append_right _ (List.mem_append_right _ (List.mem_append_right _ (List.mem_of_getElem? (l := tables_1_3) (i := 17) (by rfl))))) rfl
theorem w_498 : Jvm.Cond.code ({ cls := "CycleGroupsModel", name := "walk", desc := "(II)Z" } : Jvm.MethodName) prog_7_method_16_code (7 : Nat) (Option.some Jvm.ClassFile.FieldType.boolean) ∈ tg := tg_of (List.mem_append_right _ (List.mem_append_right _ (List.mem_append_right _ (List.mem_of_getElem? (l := tables_1_3) (i := 18) (by rfl))))) rfl
theorem w_499 : Jvm.Cond.methodLink "CycleGroupsModel" (108 : Nat) ({ cls := "CycleGroupsModel", name := "put", desc := "(II)V" } : Jvm.MethodName) ∈ tg := tg_of (List.mem_append_right _ (List.mem_append_right _ (List.mem_append_right _ (List.mem_of_getElem? (l := tables_1_3) (i := 19) (by rfl))))) rfl
theorem w_501 : Jvm.Cond.instanceMethod ({ cls := "CycleGroupsModel", name := "put", desc := "(II)V" } : Jvm.MethodName) ∈ tg := tg_of (List.mem_append_right _ (List.mem_append_right _ (List.mem_append_right _ (List.mem_of_getElem? (l := tables_1_3) (i := 21) (by rfl))))) rfl
theorem w_502 : Jvm.Cond.code ({ cls := "CycleGroupsModel", name := "put", desc := "(II)V" } : Jvm.MethodName) prog_7_method_17_code (5 : Nat) (Option.none : Option Jvm.ClassFile.FieldType) ∈ tg := tg_of (List.mem_append_right _ (List.mem_append_right _ (List.mem_append_right _ (List.mem_of_getElem? (l := tables_1_3) (i := 22) (by rfl))))) rfl
theorem w_503 : Jvm.Cond.methodLink "CycleGroupsModel" (111 : Nat) ({ cls := "CycleGroupsModel", name := "free", desc := "()I" } : Jvm.MethodName) ∈ tg := tg_of (List.mem_append_right _ (List.mem_append_right _ (List.mem_append_right _ (List.mem_of_getElem? (l := tables_1_3) (i := 23) (by rfl))))) rfl
theorem w_505 : Jvm.Cond.instanceMethod ({ cls := "CycleGroupsModel", name := "free", desc := "()I" } : Jvm.MethodName) ∈ tg := tg_of (List.mem_append_right _ (List.mem_append_right _ (List.mem_append_right _ (List.mem_of_getElem? (l := tables_1_3) (i := 25) (by rfl))))) rfl
theorem w_506 : Jvm.Cond.code ({ cls := "CycleGroupsModel", name := "free", desc := "()I" } : Jvm.MethodName) prog_7_method_20_code (2 : Nat) (Option.some Jvm.ClassFile.FieldType.int) ∈ tg := tg_of (List.mem_append_right _ (List.mem_append_right _ (List.mem_append_right _ (List.mem_of_getElem? (l := tables_1_3) (i := 26) (by rfl))))) rfl
theorem w_507 : Jvm.Cond.methodLink "CycleGroupsModel" (114 : Nat) ({ cls := "CycleGroupsModel", name := "edgeBetween", desc := "(III)I" } : Jvm.MethodName) ∈ tg := tg_of (List.mem_append_right _ (List.mem_append_right _ (List.mem_append_right _ (List.mem_of_getElem? (l := tables_1_3) (i := 27) (by rfl))))) rfl
theorem w_509 : Jvm.Cond.instanceMethod ({ cls := "CycleGroupsModel", name := "edgeBetween", desc := "(III)I" } : Jvm.MethodName) ∈ tg := tg_of (List.mem_append_right _ (List.mem_append_right _ (List.mem_append_right _ (List.mem_of_getElem? (l := tables_1_3) (i := 29) (by rfl))))) rfl
theorem w_510 : Jvm.Cond.code ({ cls := "CycleGroupsModel", name := "edgeBetween", desc := "(III)I" } : Jvm.MethodName) prog_7_method_21_code (5 : Nat) (Option.some Jvm.ClassFile.FieldType.int) ∈ tg := tg_of (List.mem_append_right _ (List.mem_append_right _ (List.mem_append_right _ (List.mem_of_getElem? (l := tables_1_3) (i := 30) (by rfl))))) rfl
theorem w_511 : Jvm.Cond.methodLink "CycleGroupsModel" (118 : Nat) ({ cls := "CycleGroupsModel", name := "along", desc := "(IZ)V" } : Jvm.MethodName) ∈ tg := tg_of (List.mem_append_right _ (List.mem_append_right _ (List.mem_append_right _ (List.mem_of_getElem? (l := tables_1_3) (i := 31) (by rfl))))) rfl
theorem w_513 : Jvm.Cond.instanceMethod ({ cls := "CycleGroupsModel", name := "along", desc := "(IZ)V" } : Jvm.MethodName) ∈ tg := tg_of (List.mem_append_right _ (List.mem_append_right _ (List.mem_append_right _ (List.mem_of_getElem? (l := tables_1_3) (i := 33) (by rfl))))) rfl
theorem w_514 : Jvm.Cond.code ({ cls := "CycleGroupsModel", name := "along", desc := "(IZ)V" } : Jvm.MethodName) prog_7_method_18_code (4 : Nat) (Option.none : Option Jvm.ClassFile.FieldType) ∈ tg := tg_of (List.mem_append_right _ (List.mem_append_right _ (List.mem_append_right _ (List.mem_of_getElem? (l := tables_1_3) (i := 34) (by rfl))))) rfl
theorem w_515 : Jvm.Cond.methodLink "CycleGroupsModel" (138 : Nat) ({ cls := "CycleGroupsModel", name := "spreadSize", desc := "(I)I" } : Jvm.MethodName) ∈ tg := tg_of (List.mem_append_right _ (List.mem_append_right _ (List.mem_append_right _ (List.mem_of_getElem? (l := tables_1_3) (i := 35) (by rfl))))) rfl
theorem w_517 : Jvm.Cond.instanceMethod ({ cls := "CycleGroupsModel", name := "spreadSize", desc := "(I)I" } : Jvm.MethodName) ∈ tg := tg_of (List.mem_append_right _ (List.mem_append_right _ (List.mem_append_right _ (List.mem_of_getElem? (l := tables_1_3) (i := 37) (by rfl))))) rfl
theorem w_518 : Jvm.Cond.code ({ cls := "CycleGroupsModel", name := "spreadSize", desc := "(I)I" } : Jvm.MethodName) prog_7_method_24_code (4 : Nat) (Option.some Jvm.ClassFile.FieldType.int) ∈ tg := tg_of (List.mem_append_right _ (List.mem_append_right _ (List.mem_append_right _ (List.mem_of_getElem? (l := tables_1_3) (i := 38) (by rfl))))) rfl
theorem w_519 : Jvm.Cond.methodLink "CycleGroupsLaw" (34 : Nat) ({ cls := "CycleGroupsModel", name := "run", desc := "()I" } : Jvm.MethodName) ∈ tg := tg_of (List.mem_append_right _ (List.mem_append_right _ (List.mem_append_right _ (List.mem_of_getElem? (l := tables_1_3) (i := 39) (by rfl))))) rfl
theorem w_520 : Jvm.Cond.instanceMethod ({ cls := "CycleGroupsModel", name := "run", desc := "()I" } : Jvm.MethodName) ∈ tg := tg_of (List.mem_append_right _ (List.mem_append_right _ (List.mem_append_right _ (List.mem_of_getElem? (l := tables_1_3) (i := 40) (by rfl))))) rfl
theorem w_521 : Jvm.Cond.selects "CycleGroupsModel" ({ cls := "CycleGroupsModel", name := "run", desc := "()I" } : Jvm.MethodName) ({ cls := "CycleGroupsModel", name := "run", desc := "()I" } : Jvm.MethodName) ∈ tg := tg_of (List.mem_append_right _ (List.mem_append_right _ (List.mem_append_right _ (List.mem_of_getElem? (l := tables_1_3) (i := 41) (by rfl))))) rfl
theorem w_522 : Jvm.Cond.code ({ cls := "CycleGroupsModel", name := "run", desc := "()I" } : Jvm.MethodName) prog_7_method_26_code (3 : Nat) (Option.some Jvm.ClassFile.FieldType.int) ∈ tg := tg_of (List.mem_append_right _ (List.mem_append_right _ (List.mem_append_right _ (List.mem_of_getElem? (l := tables_1_3) (i := 42) (by rfl))))) rfl
theorem w_523 : Jvm.Cond.methodLink "CycleGroupsLaw" (39 : Nat) ({ cls := "CycleGroupsModel", name := "base", desc := "(I)I" } : Jvm.MethodName) ∈ tg := tg_of (List.mem_append_right _ (List.mem_append_right _ (List.mem_append_right _ (List.mem_of_getElem? (l := tables_1_3) (i := 43) (by rfl))))) rfl
theorem w_524 : Jvm.Cond.instanceMethod ({ cls := "CycleGroupsModel", name := "base", desc := "(I)I" } : Jvm.MethodName) ∈ tg := tg_of (List.mem_append_right _ (List.mem_append_right _ (List.mem_append_right _ (List.mem_of_getElem? (l := tables_1_3) (i := 44) (by rfl))))) rfl
theorem w_525 : Jvm.Cond.selects "CycleGroupsModel" ({ cls := "CycleGroupsModel", name := "base", desc := "(I)I" } : Jvm.MethodName) ({ cls := "CycleGroupsModel", name := "base", desc := "(I)I" } : Jvm.MethodName) ∈ tg := tg_of (List.mem_append_right _ (List.mem_append_right _ (List.mem_append_right _ (List.mem_of_getElem? (l := tables_1_3) (i := 45) (by rfl))))) rfl
theorem w_526 : Jvm.Cond.code ({ cls := "CycleGroupsModel", name := "base", desc := "(I)I" } : Jvm.MethodName) prog_7_method_27_code (4 : Nat) (Option.some Jvm.ClassFile.FieldType.int) ∈ tg := tg_of (List.mem_append_right _ (List.mem_append_right _ (List.mem_append_right _ (List.mem_of_getElem? (l := tables_1_3) (i := 46) (by rfl))))) rfl
theorem w_527 : Jvm.Cond.methodLink "CycleGroupsLaw" (47 : Nat) ({ cls := "CycleGroupsModel", name := "order", desc := "(I)I" } : Jvm.MethodName) ∈ tg := tg_of (List.mem_append_right _ (List.mem_append_right _ (List.mem_append_right _ (List.mem_of_getElem? (l := tables_1_3) (i := 47) (by rfl))))) rfl
theorem w_528 : Jvm.Cond.instanceMethod ({ cls := "CycleGroupsModel", name := "order", desc := "(I)I" } : Jvm.MethodName) ∈ tg := tg_of (List.mem_append_right _ (List.mem_append_right _ (List.mem_append_right _ (List.mem_of_getElem? (l := tables_1_3) (i := 48) (by rfl))))) rfl
theorem w_529 : Jvm.Cond.selects "CycleGroupsModel" ({ cls := "CycleGroupsModel", name := "order", desc := "(I)I" } : Jvm.MethodName) ({ cls := "CycleGroupsModel", name := "order", desc := "(I)I" } : Jvm.MethodName) ∈ tg := tg_of (List.mem_append_right _ (List.mem_append_right _ (List.mem_append_right _ (List.mem_of_getElem? (l := tables_1_3) (i := 49) (by rfl))))) rfl
theorem w_530 : Jvm.Cond.code ({ cls := "CycleGroupsModel", name := "order", desc := "(I)I" } : Jvm.MethodName) prog_7_method_29_code (2 : Nat) (Option.some Jvm.ClassFile.FieldType.int) ∈ tg := tg_of (List.mem_append_right _ (List.mem_append_right _ (List.mem_append_right _ (List.mem_of_getElem? (l := tables_1_3) (i := 50) (by rfl))))) rfl
theorem w_531 : Jvm.Cond.methodLink "CycleGroupsModel" (142 : Nat) ({ cls := "CycleGroupsModel", name := "digitOf", desc := "(II)I" } : Jvm.MethodName) ∈ tg := tg_of (List.mem_append_right _ (List.mem_append_right _ (List.mem_append_right _ (List.mem_of_getElem? (l := tables_1_3) (i := 51) (by rfl))))) rfl
theorem w_533 : Jvm.Cond.instanceMethod ({ cls := "CycleGroupsModel", name := "digitOf", desc := "(II)I" } : Jvm.MethodName) ∈ tg := tg_of (List.mem_append_right _ (List.mem_append_right _ (List.mem_append_right _ (List.mem_of_getElem? (l := tables_1_3) (i := 53) (by rfl))))) rfl
theorem w_534 : Jvm.Cond.code ({ cls := "CycleGroupsModel", name := "digitOf", desc := "(II)I" } : Jvm.MethodName) prog_7_method_28_code (7 : Nat) (Option.some Jvm.ClassFile.FieldType.int) ∈ tg := tg_of (List.mem_append_right _ (List.mem_append_right _ (List.mem_append_right _ (List.mem_of_getElem? (l := tables_1_3) (i := 54) (by rfl))))) rfl
theorem w_535 : Jvm.Cond.methodLink "CycleGroupsLaw" (56 : Nat) ({ cls := "CycleGroupsModel", name := "orbit", desc := "(I)I" } : Jvm.MethodName) ∈ tg := tg_of (List.mem_append_right _ (List.mem_append_right _ (List.mem_append_right _ (List.mem_of_getElem? (l := tables_1_3) (i := 55) (by rfl))))) rfl
theorem w_536 : Jvm.Cond.instanceMethod ({ cls := "CycleGroupsModel", name := "orbit", desc := "(I)I" } : Jvm.MethodName) ∈ tg := tg_of (List.mem_append_right _ (List.mem_append_right _ (List.mem_append_right _ (List.mem_of_getElem? (l := tables_1_3) (i := 56) (by rfl))))) rfl
theorem w_537 : Jvm.Cond.selects "CycleGroupsModel" ({ cls := "CycleGroupsModel", name := "orbit", desc := "(I)I" } : Jvm.MethodName) ({ cls := "CycleGroupsModel", name := "orbit", desc := "(I)I" } : Jvm.MethodName) ∈ tg := tg_of (List.mem_append_right _ (List.mem_append_right _ (List.mem_append_right _ (List.mem_of_getElem? (l := tables_1_3) (i := 57) (by rfl))))) rfl
theorem w_538 : Jvm.Cond.code ({ cls := "CycleGroupsModel", name := "orbit", desc := "(I)I" } : Jvm.MethodName) prog_7_method_34_code (2 : Nat) (Option.some Jvm.ClassFile.FieldType.int) ∈ tg := tg_of (List.mem_append_right _ (List.mem_append_right _ (List.mem_append_right _ (List.mem_of_getElem? (l := tables_1_3) (i := 58) (by rfl))))) rfl
theorem w_539 : Jvm.Cond.methodLink "CycleGroupsModel" (152 : Nat) ({ cls := "CycleGroupsModel", name := "orbits", desc := "()V" } : Jvm.MethodName) ∈ tg := tg_of (List.mem_append_right _ (List.mem_append_right _ (List.mem_append_right _ (List.mem_of_getElem? (l := tables_1_3) (i := 59) (by rfl))))) rfl
theorem w_541 : Jvm.Cond.instanceMethod ({ cls := "CycleGroupsModel", name := "orbits", desc := "()V" } : Jvm.MethodName) ∈ tg := tg_of (List.mem_append_right _ (List.mem_append_right _ (List.mem_append_right _ (List.mem_of_getElem? (l := tables_1_3) (i := 61) (by rfl))))) rfl
theorem w_542 : Jvm.Cond.code ({ cls := "CycleGroupsModel", name := "orbits", desc := "()V" } : Jvm.MethodName) prog_7_method_32_code (3 : Nat) (Option.none : Option Jvm.ClassFile.FieldType) ∈ tg := tg_of (List.mem_append_right _ (List.mem_append_right _ (List.mem_append_right _ (List.mem_of_getElem? (l := tables_1_3) (i := 62) (by rfl))))) rfl
theorem w_543 : Jvm.Cond.methodLink "CycleGroupsModel" (146 : Nat) ({ cls := "CycleGroupsModel", name := "share", desc := "()V" } : Jvm.MethodName) ∈ tg := tg_of (List.mem_append_right _ (List.mem_append_right _ (List.mem_append_right _ (List.mem_of_getElem? (l := tables_1_3) (i := 63) (by rfl))))) rfl
theorem w_545 : Jvm.Cond.instanceMethod ({ cls := "CycleGroupsModel", name := "share", desc := "()V" } : Jvm.MethodName) ∈ tg := tg_of (List.mem_append_right _ (List.mem_append_right _ (List.mem_append_right _ (List.mem_of_getElem? (l := tables_1_3) (i := 65) (by rfl))))) rfl
theorem w_546 : Jvm.Cond.code ({ cls := "CycleGroupsModel", name := "share", desc := "()V" } : Jvm.MethodName) prog_7_method_30_code (2 : Nat) (Option.none : Option Jvm.ClassFile.FieldType) ∈ tg := tg_of (List.mem_append_right _ (List.mem_append_right _ (List.mem_append_right _ (List.mem_of_getElem? (l := tables_1_3) (i := 66) (by rfl))))) rfl
theorem w_547 : Jvm.Cond.methodLink "CycleGroupsModel" (149 : Nat) ({ cls := "CycleGroupsModel", name := "joinSets", desc := "(II)Z" } : Jvm.MethodName) ∈ tg := tg_of (List.mem_append_right _ (List.mem_append_right _ (List.mem_append_right _ (List.mem_of_getElem? (l := tables_1_3) (i := 67) (by rfl))))) rfl
theorem w_549 : Jvm.Cond.instanceMethod ({ cls := "CycleGroupsModel", name := "joinSets", desc := "(II)Z" } : Jvm.MethodName) ∈ tg := tg_of (List.mem_append_right _ (List.mem_append_right _ (List.mem_append_right _ (List.mem_of_getElem? (l := tables_1_3) (i := 69) (by rfl))))) rfl
theorem w_550 : Jvm.Cond.code ({ cls := "CycleGroupsModel", name := "joinSets", desc := "(II)Z" } : Jvm.MethodName) prog_7_method_31_code (6 : Nat) (Option.some Jvm.ClassFile.FieldType.boolean) ∈ tg := tg_of (List.mem_append_right _ (List.mem_append_right _ (List.mem_append_right _ (List.mem_of_getElem? (l := tables_1_3) (i := 70) (by rfl))))) rfl
theorem w_551 : Jvm.Cond.methodLink "CycleGroupsLaw" (52 : Nat) ({ cls := "CycleGroupsModel", name := "stabiliser", desc := "(II)I" } : Jvm.MethodName) ∈ tg := tg_of (List.mem_append_right _ (List.mem_append_right _ (List.mem_append_right _ (List.mem_of_getElem? (l := tables_1_3) (i := 71) (by rfl))))) rfl
theorem w_552 : Jvm.Cond.instanceMethod ({ cls := "CycleGroupsModel", name := "stabiliser", desc := "(II)I" } : Jvm.MethodName) ∈ tg := tg_of (List.mem_append_right _ (List.mem_append_right _ (List.mem_append_right _ (List.mem_of_getElem? (l := tables_1_3) (i := 72) (by rfl))))) rfl
theorem w_553 : Jvm.Cond.selects "CycleGroupsModel" ({ cls := "CycleGroupsModel", name := "stabiliser", desc := "(II)I" } : Jvm.MethodName) ({ cls := "CycleGroupsModel", name := "stabiliser", desc := "(II)I" } : Jvm.MethodName) ∈ tg := tg_of (List.mem_append_right _ (List.mem_append_right _ (List.mem_append_right _ (List.mem_of_getElem? (l := tables_1_3) (i := 73) (by rfl))))) rfl
theorem w_554 : Jvm.Cond.code ({ cls := "CycleGroupsModel", name := "stabiliser", desc := "(II)I" } : Jvm.MethodName) prog_7_method_35_code (3 : Nat) (Option.some Jvm.ClassFile.FieldType.int) ∈ tg := tg_of (List.mem_append_right _ (List.mem_append_right _ (List.mem_append_right _ (List.mem_of_getElem? (l := tables_1_3) (i := 74) (by rfl))))) rfl
theorem w_555 : Jvm.Cond.methodLink "CycleGroupsModel" (155 : Nat) ({ cls := "CycleGroupsModel", name := "sizeOf", desc := "(I)I" } : Jvm.MethodName) ∈ tg := tg_of (List.mem_append_right _ (List.mem_append_right _ (List.mem_append_right _ (List.mem_of_getElem? (l := tables_1_3) (i := 75) (by rfl))))) rfl
theorem w_557 : Jvm.Cond.instanceMethod ({ cls := "CycleGroupsModel", name := "sizeOf", desc := "(I)I" } : Jvm.MethodName) ∈ tg := tg_of (List.mem_append_right _ (List.mem_append_right _ (List.mem_append_right _ (List.mem_of_getElem? (l := tables_1_3) (i := 77) (by rfl))))) rfl
theorem w_558 : Jvm.Cond.code ({ cls := "CycleGroupsModel", name := "sizeOf", desc := "(I)I" } : Jvm.MethodName) prog_7_method_33_code (4 : Nat) (Option.some Jvm.ClassFile.FieldType.int) ∈ tg := tg_of (List.mem_append_right _ (List.mem_append_right _ (List.mem_append_right _ (List.mem_of_getElem? (l := tables_1_3) (i := 78) (by rfl))))) rfl
theorem w_559 : Jvm.Cond.methodLink "CycleGroupsLaw" (60 : Nat) ({ cls := "CycleGroupsModel", name := "block", desc := "(II)I" } : Jvm.MethodName) ∈ tg := tg_of (List.mem_append_right _ (List.mem_append_right _ (List.mem_append_right _ (List.mem_of_getElem? (l := tables_1_3) (i := 79) (by rfl))))) rfl
theorem w_560 : Jvm.Cond.instanceMethod ({ cls := "CycleGroupsModel", name := "block", desc := "(II)I" } : Jvm.MethodName) ∈ tg := tg_of (List.mem_append_right _ (List.mem_append_right _ (List.mem_append_right _ (List.mem_of_getElem? (l := tables_1_3) (i := 80) (by rfl))))) rfl
theorem w_561 : Jvm.Cond.selects "CycleGroupsModel" ({ cls := "CycleGroupsModel", name := "block", desc := "(II)I" } : Jvm.MethodName) ({ cls := "CycleGroupsModel", name := "block", desc := "(II)I" } : Jvm.MethodName) ∈ tg := tg_of (List.mem_append_right _ (List.mem_append_right _ (List.mem_append_right _ (List.mem_of_getElem? (l := tables_1_3) (i := 81) (by rfl))))) rfl
theorem w_562 : Jvm.Cond.code ({ cls := "CycleGroupsModel", name := "block", desc := "(II)I" } : Jvm.MethodName) prog_7_method_36_code (6 : Nat) (Option.some Jvm.ClassFile.FieldType.int) ∈ tg := tg_of (List.mem_append_right _ (List.mem_append_right _ (List.mem_append_right _ (List.mem_of_getElem? (l := tables_1_3) (i := 82) (by rfl))))) rfl
theorem w_563 : Jvm.Cond.methodLink "CycleGroupsLaw" (92 : Nat) ({ cls := "CycleGroupsModel", name := "level", desc := "(I)I" } : Jvm.MethodName) ∈ tg := tg_of (List.mem_append_right _ (List.mem_append_right _ (List.mem_append_right _ (List.mem_of_getElem? (l := tables_1_3) (i := 83) (by rfl))))) rfl
theorem w_564 : Jvm.Cond.instanceMethod ({ cls := "CycleGroupsModel", name := "level", desc := "(I)I" } : Jvm.MethodName) ∈ tg := tg_of (List.mem_append_right _ (List.mem_append_right _ (List.mem_append_right _ (List.mem_of_getElem? (l := tables_1_3) (i := 84) (by rfl))))) rfl
theorem w_565 : Jvm.Cond.selects "CycleGroupsModel" ({ cls := "CycleGroupsModel", name := "level", desc := "(I)I" } : Jvm.MethodName) ({ cls := "CycleGroupsModel", name := "level", desc := "(I)I" } : Jvm.MethodName) ∈ tg := tg_of (List.mem_append_right _ (List.mem_append_right _ (List.mem_append_right _ (List.mem_of_getElem? (l := tables_1_3) (i := 85) (by rfl))))) rfl
theorem w_566 : Jvm.Cond.code ({ cls := "CycleGroupsModel", name := "level", desc := "(I)I" } : Jvm.MethodName) prog_7_method_37_code (3 : Nat) (Option.some Jvm.ClassFile.FieldType.int) ∈ tg := tg_of (List.mem_append_right _ (List.mem_append_right _ (List.mem_append_right _ (List.mem_of_getElem? (l := tables_1_3) (i := 86) (by rfl))))) rfl
theorem w_567 : Jvm.Cond.methodLink "CycleGroupsLaw" (88 : Nat) ({ cls := "CycleGroupsModel", name := "member", desc := "(I)I" } : Jvm.MethodName) ∈ tg := tg_of (List.mem_append_right _ (List.mem_append_right _ (List.mem_append_right _ (List.mem_of_getElem? (l := tables_1_3) (i := 87) (by rfl))))) rfl
theorem w_568 : Jvm.Cond.instanceMethod ({ cls := "CycleGroupsModel", name := "member", desc := "(I)I" } : Jvm.MethodName) ∈ tg := tg_of (List.mem_append_right _ (List.mem_append_right _ (List.mem_append_right _ (List.mem_of_getElem? (l := tables_1_3) (i := 88) (by rfl))))) rfl
theorem w_569 : Jvm.Cond.selects "CycleGroupsModel" ({ cls := "CycleGroupsModel", name := "member", desc := "(I)I" } : Jvm.MethodName) ({ cls := "CycleGroupsModel", name := "member", desc := "(I)I" } : Jvm.MethodName) ∈ tg := tg_of (List.mem_append_right _ (List.mem_append_right _ (List.mem_append_right _ (List.mem_of_getElem? (l := tables_1_3) (i := 89) (by rfl))))) rfl
theorem w_570 : Jvm.Cond.code ({ cls := "CycleGroupsModel", name := "member", desc := "(I)I" } : Jvm.MethodName) prog_7_method_38_code (3 : Nat) (Option.some Jvm.ClassFile.FieldType.int) ∈ tg := tg_of (List.mem_append_right _ (List.mem_append_right _ (List.mem_append_right _ (List.mem_of_getElem? (l := tables_1_3) (i := 90) (by rfl))))) rfl
theorem w_571 : Jvm.Cond.methodLink "CycleGroupsModel" (158 : Nat) ({ cls := "CycleGroupsModel", name := "level", desc := "(I)I" } : Jvm.MethodName) ∈ tg := tg_of (List.mem_append_right _ (List.mem_append_right _ (List.mem_append_right _ (List.mem_of_getElem? (l := tables_1_3) (i := 91) (by rfl))))) rfl
theorem w_572 : Jvm.Cond.methodLink "CycleGroupsLaw" (96 : Nat) ({ cls := "CycleGroupsModel", name := "parity", desc := "(I)I" } : Jvm.MethodName) ∈ tg := tg_of (List.mem_append_right _ (List.mem_append_right _ (List.mem_append_right _ (List.mem_of_getElem? (l := tables_1_3) (i := 92) (by rfl))))) rfl
theorem w_573 : Jvm.Cond.instanceMethod ({ cls := "CycleGroupsModel", name := "parity", desc := "(I)I" } : Jvm.MethodName) ∈ tg := tg_of (List.mem_append_right _ (List.mem_append_right _ (List.mem_append_right _ (List.mem_of_getElem? (l := tables_1_3) (i := 93) (by rfl))))) rfl
theorem w_574 : Jvm.Cond.selects "CycleGroupsModel" ({ cls := "CycleGroupsModel", name := "parity", desc := "(I)I" } : Jvm.MethodName) ({ cls := "CycleGroupsModel", name := "parity", desc := "(I)I" } : Jvm.MethodName) ∈ tg := tg_of (List.mem_append_right _ (List.mem_append_right _ (List.mem_append_right _ (List.mem_of_getElem? (l := tables_1_3) (i := 94) (by rfl))))) rfl
theorem w_575 : Jvm.Cond.code ({ cls := "CycleGroupsModel", name := "parity", desc := "(I)I" } : Jvm.MethodName) prog_7_method_40_code (5 : Nat) (Option.some Jvm.ClassFile.FieldType.int) ∈ tg := tg_of (List.mem_append_right _ (List.mem_append_right _ (List.mem_append_right _ (List.mem_of_getElem? (l := tables_1_3) (i := 95) (by rfl))))) rfl
theorem w_576 : Jvm.Cond.methodLink "CycleGroupsLaw" (101 : Nat) ({ cls := "CycleGroupsModel", name := "times", desc := "(I)J" } : Jvm.MethodName) ∈ tg := tg_of (List.mem_append_right _ (List.mem_append_right _ (List.mem_append_right _ (List.mem_of_getElem? (l := tables_1_3) (i := 96) (by rfl))))) rfl
theorem w_577 : Jvm.Cond.instanceMethod ({ cls := "CycleGroupsModel", name := "times", desc := "(I)J" } : Jvm.MethodName) ∈ tg := tg_of (List.mem_append_right _ (List.mem_append_right _ (List.mem_append_right _ (List.mem_of_getElem? (l := tables_1_3) (i := 97) (by rfl))))) rfl
theorem w_578 : Jvm.Cond.selects "CycleGroupsModel" ({ cls := "CycleGroupsModel", name := "times", desc := "(I)J" } : Jvm.MethodName) ({ cls := "CycleGroupsModel", name := "times", desc := "(I)J" } : Jvm.MethodName) ∈ tg := tg_of (List.mem_append_right _ (List.mem_append_right _ (List.mem_append_right _ (List.mem_of_getElem? (l := tables_1_3) (i := 98) (by rfl))))) rfl
theorem w_579 : Jvm.Cond.code ({ cls := "CycleGroupsModel", name := "times", desc := "(I)J" } : Jvm.MethodName) prog_7_method_41_code (6 : Nat) (Option.some Jvm.ClassFile.FieldType.long) ∈ tg := tg_of (List.mem_append_right _ (List.mem_append_right _ (List.mem_append_right _ (List.mem_of_getElem? (l := tables_1_3) (i := 99) (by rfl))))) rfl
theorem w_580 : Jvm.Cond.methodLink "CycleGroupsModel" (161 : Nat) ({ cls := "CycleGroupsModel", name := "roundOf", desc := "(II)I" } : Jvm.MethodName) ∈ tg := tg_of (List.mem_append_right _ (List.mem_append_right _ (List.mem_append_right _ (List.mem_of_getElem? (l := tables_1_3) (i := 100) (by rfl))))) rfl
theorem w_582 : Jvm.Cond.instanceMethod ({ cls := "CycleGroupsModel", name := "roundOf", desc := "(II)I" } : Jvm.MethodName) ∈ tg := tg_of (List.mem_append_right _ (List.mem_append_right _ (List.mem_append_right _ (List.mem_of_getElem? (l := tables_1_3) (i := 102) (by rfl))))) rfl
theorem w_583 : Jvm.Cond.code ({ cls := "CycleGroupsModel", name := "roundOf", desc := "(II)I" } : Jvm.MethodName) prog_7_method_39_code (5 : Nat) (Option.some Jvm.ClassFile.FieldType.int) ∈ tg := tg_of (List.mem_append_right _ (List.mem_append_right _ (List.mem_append_right _ (List.mem_of_getElem? (l := tables_1_3) (i := 103) (by rfl))))) rfl
theorem w_584 : Jvm.Cond.constantLong "CycleGroupsLaw" (74 : Nat) (4294967295 : Int64) ∈ tg := tg_of (List.mem_append_right _ (List.mem_append_right _ (List.mem_append_right _ (List.mem_of_getElem? (l := tables_1_3) (i := 104) (by rfl))))) rfl
abbrev b_C_init : ByteArray := prog_1_method_1_code
def y_C_init : MethodName := ⟨"CycleGroups", "<init>", "(I)V"⟩
abbrev b_C_move : ByteArray := prog_1_method_2_code
def y_C_move : MethodName := ⟨"CycleGroups", "move", "()I"⟩
abbrev b_C_cycle : ByteArray := prog_1_method_3_code
def y_C_cycle : MethodName := ⟨"CycleGroups", "cycle", "(III)Z"⟩
abbrev b_C_run : ByteArray := prog_1_method_4_code
def y_C_run : MethodName := ⟨"CycleGroups", "run", "()I"⟩
abbrev b_C_base : ByteArray := prog_1_method_5_code
def y_C_base : MethodName := ⟨"CycleGroups", "base", "(I)I"⟩
abbrev b_C_spread : ByteArray := prog_1_method_6_code
def y_C_spread : MethodName := ⟨"CycleGroups", "spread", "(I)I"⟩
abbrev b_C_order : ByteArray := prog_1_method_7_code
def y_C_order : MethodName := ⟨"CycleGroups", "order", "(I)I"⟩
abbrev b_C_stabiliser : ByteArray := prog_1_method_8_code
def y_C_stabiliser : MethodName := ⟨"CycleGroups", "stabiliser", "(II)I"⟩
abbrev b_C_orbit : ByteArray := prog_1_method_9_code
def y_C_orbit : MethodName := ⟨"CycleGroups", "orbit", "(I)I"⟩
abbrev b_C_block : ByteArray := prog_1_method_10_code
def y_C_block : MethodName := ⟨"CycleGroups", "block", "(II)I"⟩
abbrev b_C_state : ByteArray := prog_1_method_11_code
def y_C_state : MethodName := ⟨"CycleGroups", "state", "()I"⟩
abbrev b_C_apply : ByteArray := prog_1_method_12_code
def y_C_apply : MethodName := ⟨"CycleGroups", "apply", "(II)Z"⟩
abbrev b_C_exchange : ByteArray := prog_1_method_13_code
def y_C_exchange : MethodName := ⟨"CycleGroups", "exchange", "(III)Z"⟩
abbrev b_C_scramble : ByteArray := prog_1_method_14_code
def y_C_scramble : MethodName := ⟨"CycleGroups", "scramble", "(IJI)Z"⟩
abbrev b_C_image : ByteArray := prog_1_method_15_code
def y_C_image : MethodName := ⟨"CycleGroups", "image", "(II)I"⟩
abbrev b_C_member : ByteArray := prog_1_method_16_code
def y_C_member : MethodName := ⟨"CycleGroups", "member", "(I)I"⟩
abbrev b_C_level : ByteArray := prog_1_method_17_code
def y_C_level : MethodName := ⟨"CycleGroups", "level", "(I)I"⟩
abbrev b_C_parity : ByteArray := prog_1_method_18_code
def y_C_parity : MethodName := ⟨"CycleGroups", "parity", "(I)I"⟩
abbrev b_C_times : ByteArray := prog_1_method_19_code
def y_C_times : MethodName := ⟨"CycleGroups", "times", "(I)J"⟩
abbrev b_C_isPlace : ByteArray := prog_1_method_20_code
def y_C_isPlace : MethodName := ⟨"CycleGroups", "isPlace", "(I)Z"⟩
abbrev b_C_isMove : ByteArray := prog_1_method_21_code
def y_C_isMove : MethodName := ⟨"CycleGroups", "isMove", "(I)Z"⟩
abbrev b_C_isState : ByteArray := prog_1_method_22_code
def y_C_isState : MethodName := ⟨"CycleGroups", "isState", "(I)Z"⟩
abbrev b_C_freshChain : ByteArray := prog_1_method_23_code
def y_C_freshChain : MethodName := ⟨"CycleGroups", "freshChain", "()LCycleGroups$Chain;"⟩
abbrev b_C_countGroup : ByteArray := prog_1_method_24_code
def y_C_countGroup : MethodName := ⟨"CycleGroups", "countGroup", "(LCycleGroups$Chain;)V"⟩
abbrev b_C_leaveAll : ByteArray := prog_1_method_25_code
def y_C_leaveAll : MethodName := ⟨"CycleGroups", "leaveAll", "([I)V"⟩
abbrev b_C_follow : ByteArray := prog_1_method_26_code
def y_C_follow : MethodName := ⟨"CycleGroups", "follow", "([I[I)V"⟩
abbrev b_C_returnTime : ByteArray := prog_1_method_27_code
def y_C_returnTime : MethodName := ⟨"CycleGroups", "returnTime", "([II)I"⟩
abbrev b_C_leastMultiple : ByteArray := prog_1_method_28_code
def y_C_leastMultiple : MethodName := ⟨"CycleGroups", "leastMultiple", "(JI)J"⟩
abbrev b_M_init : ByteArray := prog_7_method_1_code
def y_M_init : MethodName := ⟨"CycleGroupsModel", "<init>", "(I)V"⟩
abbrev b_M_isPlace : ByteArray := prog_7_method_3_code
def y_M_isPlace : MethodName := ⟨"CycleGroupsModel", "isPlace", "(I)Z"⟩
abbrev b_M_isState : ByteArray := prog_7_method_4_code
def y_M_isState : MethodName := ⟨"CycleGroupsModel", "isState", "(I)Z"⟩
abbrev b_M_move : ByteArray := prog_7_method_5_code
def y_M_move : MethodName := ⟨"CycleGroupsModel", "move", "()I"⟩
abbrev b_M_cycle : ByteArray := prog_7_method_6_code
def y_M_cycle : MethodName := ⟨"CycleGroupsModel", "cycle", "(III)Z"⟩
abbrev b_M_state : ByteArray := prog_7_method_7_code
def y_M_state : MethodName := ⟨"CycleGroupsModel", "state", "()I"⟩
abbrev b_M_applyMove : ByteArray := prog_7_method_8_code
def y_M_applyMove : MethodName := ⟨"CycleGroupsModel", "applyMove", "(II)V"⟩
abbrev b_M_apply : ByteArray := prog_7_method_9_code
def y_M_apply : MethodName := ⟨"CycleGroupsModel", "apply", "(II)Z"⟩
abbrev b_M_exchange : ByteArray := prog_7_method_10_code
def y_M_exchange : MethodName := ⟨"CycleGroupsModel", "exchange", "(III)Z"⟩
abbrev b_M_scramble : ByteArray := prog_7_method_11_code
def y_M_scramble : MethodName := ⟨"CycleGroupsModel", "scramble", "(IJI)Z"⟩
abbrev b_M_image : ByteArray := prog_7_method_12_code
def y_M_image : MethodName := ⟨"CycleGroupsModel", "image", "(II)I"⟩
abbrev b_M_spreadOf : ByteArray := prog_7_method_13_code
def y_M_spreadOf : MethodName := ⟨"CycleGroupsModel", "spreadOf", "(I)V"⟩
abbrev b_M_undo : ByteArray := prog_7_method_14_code
def y_M_undo : MethodName := ⟨"CycleGroupsModel", "undo", "(II)V"⟩
abbrev b_M_leastMoved : ByteArray := prog_7_method_15_code
def y_M_leastMoved : MethodName := ⟨"CycleGroupsModel", "leastMoved", "()I"⟩
abbrev b_M_walk : ByteArray := prog_7_method_16_code
def y_M_walk : MethodName := ⟨"CycleGroupsModel", "walk", "(II)Z"⟩
abbrev b_M_put : ByteArray := prog_7_method_17_code
def y_M_put : MethodName := ⟨"CycleGroupsModel", "put", "(II)V"⟩
abbrev b_M_along : ByteArray := prog_7_method_18_code
def y_M_along : MethodName := ⟨"CycleGroupsModel", "along", "(IZ)V"⟩
abbrev b_M_keep : ByteArray := prog_7_method_19_code
def y_M_keep : MethodName := ⟨"CycleGroupsModel", "keep", "()V"⟩
abbrev b_M_free : ByteArray := prog_7_method_20_code
def y_M_free : MethodName := ⟨"CycleGroupsModel", "free", "()I"⟩
abbrev b_M_edgeBetween : ByteArray := prog_7_method_21_code
def y_M_edgeBetween : MethodName := ⟨"CycleGroupsModel", "edgeBetween", "(III)I"⟩
abbrev b_M_nextPart : ByteArray := prog_7_method_22_code
def y_M_nextPart : MethodName := ⟨"CycleGroupsModel", "nextPart", "(I)V"⟩
abbrev b_M_know : ByteArray := prog_7_method_23_code
def y_M_know : MethodName := ⟨"CycleGroupsModel", "know", "()V"⟩
abbrev b_M_spreadSize : ByteArray := prog_7_method_24_code
def y_M_spreadSize : MethodName := ⟨"CycleGroupsModel", "spreadSize", "(I)I"⟩
abbrev b_M_spread : ByteArray := prog_7_method_25_code
def y_M_spread : MethodName := ⟨"CycleGroupsModel", "spread", "(I)I"⟩
abbrev b_M_run : ByteArray := prog_7_method_26_code
def y_M_run : MethodName := ⟨"CycleGroupsModel", "run", "()I"⟩
abbrev b_M_base : ByteArray := prog_7_method_27_code
def y_M_base : MethodName := ⟨"CycleGroupsModel", "base", "(I)I"⟩
abbrev b_M_digitOf : ByteArray := prog_7_method_28_code
def y_M_digitOf : MethodName := ⟨"CycleGroupsModel", "digitOf", "(II)I"⟩
abbrev b_M_order : ByteArray := prog_7_method_29_code
def y_M_order : MethodName := ⟨"CycleGroupsModel", "order", "(I)I"⟩
abbrev b_M_share : ByteArray := prog_7_method_30_code
def y_M_share : MethodName := ⟨"CycleGroupsModel", "share", "()V"⟩
abbrev b_M_joinSets : ByteArray := prog_7_method_31_code
def y_M_joinSets : MethodName := ⟨"CycleGroupsModel", "joinSets", "(II)Z"⟩
abbrev b_M_orbits : ByteArray := prog_7_method_32_code
def y_M_orbits : MethodName := ⟨"CycleGroupsModel", "orbits", "()V"⟩
abbrev b_M_sizeOf : ByteArray := prog_7_method_33_code
def y_M_sizeOf : MethodName := ⟨"CycleGroupsModel", "sizeOf", "(I)I"⟩
abbrev b_M_orbit : ByteArray := prog_7_method_34_code
def y_M_orbit : MethodName := ⟨"CycleGroupsModel", "orbit", "(I)I"⟩
abbrev b_M_stabiliser : ByteArray := prog_7_method_35_code
def y_M_stabiliser : MethodName := ⟨"CycleGroupsModel", "stabiliser", "(II)I"⟩
abbrev b_M_block : ByteArray := prog_7_method_36_code
def y_M_block : MethodName := ⟨"CycleGroupsModel", "block", "(II)I"⟩
abbrev b_M_level : ByteArray := prog_7_method_37_code
def y_M_level : MethodName := ⟨"CycleGroupsModel", "level", "(I)I"⟩
abbrev b_M_member : ByteArray := prog_7_method_38_code
def y_M_member : MethodName := ⟨"CycleGroupsModel", "member", "(I)I"⟩
abbrev b_M_roundOf : ByteArray := prog_7_method_39_code
def y_M_roundOf : MethodName := ⟨"CycleGroupsModel", "roundOf", "(II)I"⟩
abbrev b_M_parity : ByteArray := prog_7_method_40_code
def y_M_parity : MethodName := ⟨"CycleGroupsModel", "parity", "(I)I"⟩
abbrev b_M_times : ByteArray := prog_7_method_41_code
def y_M_times : MethodName := ⟨"CycleGroupsModel", "times", "(I)J"⟩
abbrev b_H_init : ByteArray := prog_2_method_1_code
def y_H_init : MethodName := ⟨"CycleGroups$Chain", "<init>", "(I)V"⟩
abbrev b_H_build : ByteArray := prog_2_method_2_code
def y_H_build : MethodName := ⟨"CycleGroups$Chain", "build", "([[II)V"⟩
abbrev b_H_spreadSize : ByteArray := prog_2_method_3_code
def y_H_spreadSize : MethodName := ⟨"CycleGroups$Chain", "spreadSize", "(I)I"⟩
abbrev b_H_failingPlace : ByteArray := prog_2_method_4_code
def y_H_failingPlace : MethodName := ⟨"CycleGroups$Chain", "failingPlace", "([I)I"⟩
abbrev b_H_siftWork : ByteArray := prog_2_method_5_code
def y_H_siftWork : MethodName := ⟨"CycleGroups$Chain", "siftWork", "(I)I"⟩
abbrev b_H_complete : ByteArray := prog_2_method_6_code
def y_H_complete : MethodName := ⟨"CycleGroups$Chain", "complete", "()V"⟩
abbrev b_H_advance : ByteArray := prog_2_method_7_code
def y_H_advance : MethodName := ⟨"CycleGroups$Chain", "advance", "(I)I"⟩
abbrev b_D_init : ByteArray := prog_3_method_1_code
def y_D_init : MethodName := ⟨"CycleGroups$Decimal", "<init>", "()V"⟩
abbrev b_D_setOne : ByteArray := prog_3_method_2_code
def y_D_setOne : MethodName := ⟨"CycleGroups$Decimal", "setOne", "()V"⟩
abbrev b_D_multiply : ByteArray := prog_3_method_3_code
def y_D_multiply : MethodName := ⟨"CycleGroups$Decimal", "multiply", "(I)V"⟩
abbrev b_D_divide : ByteArray := prog_3_method_4_code
def y_D_divide : MethodName := ⟨"CycleGroups$Decimal", "divide", "(I)V"⟩
abbrev b_D_digit : ByteArray := prog_3_method_5_code
def y_D_digit : MethodName := ⟨"CycleGroups$Decimal", "digit", "(I)I"⟩
abbrev b_D_length : ByteArray := prog_3_method_6_code
def y_D_length : MethodName := ⟨"CycleGroups$Decimal", "length", "()I"⟩
abbrev b_K_init : ByteArray := prog_4_method_1_code
def y_K_init : MethodName := ⟨"CycleGroups$Link", "<init>", "(II)V"⟩
abbrev b_K_clear : ByteArray := prog_4_method_2_code
def y_K_clear : MethodName := ⟨"CycleGroups$Link", "clear", "()V"⟩
abbrev b_K_spreadSize : ByteArray := prog_4_method_3_code
def y_K_spreadSize : MethodName := ⟨"CycleGroups$Link", "spreadSize", "()I"⟩
abbrev b_K_undo : ByteArray := prog_4_method_4_code
def y_K_undo : MethodName := ⟨"CycleGroups$Link", "undo", "([I)Z"⟩
abbrev b_K_addGenerator : ByteArray := prog_4_method_5_code
def y_K_addGenerator : MethodName := ⟨"CycleGroups$Link", "addGenerator", "([I)V"⟩
abbrev b_K_openGenerator : ByteArray := prog_4_method_6_code
def y_K_openGenerator : MethodName := ⟨"CycleGroups$Link", "openGenerator", "()I"⟩
abbrev b_K_reachesNewPlace : ByteArray := prog_4_method_7_code
def y_K_reachesNewPlace : MethodName := ⟨"CycleGroups$Link", "reachesNewPlace", "(I[I)Z"⟩
abbrev b_K_widen : ByteArray := prog_4_method_8_code
def y_K_widen : MethodName := ⟨"CycleGroups$Link", "widen", "(I[I[I)V"⟩
abbrev b_P_init : ByteArray := prog_5_method_1_code
def y_P_init : MethodName := ⟨"CycleGroups$Partition", "<init>", "(I)V"⟩
abbrev b_P_separate : ByteArray := prog_5_method_2_code
def y_P_separate : MethodName := ⟨"CycleGroups$Partition", "separate", "()V"⟩
abbrev b_P_join : ByteArray := prog_5_method_3_code
def y_P_join : MethodName := ⟨"CycleGroups$Partition", "join", "(II)Z"⟩
abbrev b_P_joinOrbits : ByteArray := prog_5_method_4_code
def y_P_joinOrbits : MethodName := ⟨"CycleGroups$Partition", "joinOrbits", "([[II)V"⟩
abbrev b_P_joinImages : ByteArray := prog_5_method_5_code
def y_P_joinImages : MethodName := ⟨"CycleGroups$Partition", "joinImages", "([[II)V"⟩
abbrev b_P_joinImagesOnce : ByteArray := prog_5_method_6_code
def y_P_joinImagesOnce : MethodName := ⟨"CycleGroups$Partition", "joinImagesOnce", "([I)Z"⟩
abbrev b_P_leastWith : ByteArray := prog_5_method_7_code
def y_P_leastWith : MethodName := ⟨"CycleGroups$Partition", "leastWith", "(I)I"⟩
abbrev b_P_sizeWith : ByteArray := prog_5_method_8_code
def y_P_sizeWith : MethodName := ⟨"CycleGroups$Partition", "sizeWith", "(I)I"⟩
abbrev b_L_cell : ByteArray := method_2_code
def y_L_cell : MethodName := ⟨"CycleGroupsLaw", "cell", "([II)I"⟩
abbrev b_L_law : ByteArray := code
def y_L_law : MethodName := ⟨"CycleGroupsLaw", "law", "([I)Z"⟩
abbrev b_A_fill : ByteArray := prog_10_method_103_code
def y_A_fill : MethodName := ⟨"java/util/Arrays", "fill", "([II)V"⟩
theorem ws_C_isMove : Cond.selects y_C_isMove.cls y_C_isMove y_C_isMove ∈ tg := tg_of (List.mem_append_left _ (List.mem_of_getElem? (i := 0) (by rfl))) rfl
theorem ws_C_isPlace : Cond.selects y_C_isPlace.cls y_C_isPlace y_C_isPlace ∈ tg := tg_of (List.mem_append_left _ (List.mem_of_getElem? (i := 1) (by rfl))) rfl
theorem ws_C_freshChain : Cond.selects y_C_freshChain.cls y_C_freshChain y_C_freshChain ∈ tg := tg_of (List.mem_append_left _ (List.mem_of_getElem? (i := 2) (by rfl))) rfl
theorem ws_H_siftWork : Cond.selects y_H_siftWork.cls y_H_siftWork y_H_siftWork ∈ tg := tg_of (List.mem_append_left _ (List.mem_of_getElem? (i := 3) (by rfl))) rfl
theorem ws_H_complete : Cond.selects y_H_complete.cls y_H_complete y_H_complete ∈ tg := tg_of (List.mem_append_left _ (List.mem_of_getElem? (i := 4) (by rfl))) rfl
theorem ws_H_advance : Cond.selects y_H_advance.cls y_H_advance y_H_advance ∈ tg := tg_of (List.mem_append_left _ (List.mem_of_getElem? (i := 5) (by rfl))) rfl
theorem ws_K_widen : Cond.selects y_K_widen.cls y_K_widen y_K_widen ∈ tg := tg_of (List.mem_append_left _ (List.mem_of_getElem? (i := 6) (by rfl))) rfl
theorem ws_C_countGroup : Cond.selects y_C_countGroup.cls y_C_countGroup y_C_countGroup ∈ tg := tg_of (List.mem_append_left _ (List.mem_of_getElem? (i := 7) (by rfl))) rfl
theorem ws_D_length : Cond.selects y_D_length.cls y_D_length y_D_length ∈ tg := tg_of (List.mem_append_left _ (List.mem_of_getElem? (i := 8) (by rfl))) rfl
theorem ws_P_joinImagesOnce : Cond.selects y_P_joinImagesOnce.cls y_P_joinImagesOnce y_P_joinImagesOnce ∈ tg := tg_of (List.mem_append_left _ (List.mem_of_getElem? (i := 9) (by rfl))) rfl
theorem ws_C_isState : Cond.selects y_C_isState.cls y_C_isState y_C_isState ∈ tg := tg_of (List.mem_append_left _ (List.mem_of_getElem? (i := 10) (by rfl))) rfl
theorem ws_M_isPlace : Cond.selects y_M_isPlace.cls y_M_isPlace y_M_isPlace ∈ tg := tg_of (List.mem_append_left _ (List.mem_of_getElem? (i := 11) (by rfl))) rfl
theorem ws_M_isState : Cond.selects y_M_isState.cls y_M_isState y_M_isState ∈ tg := tg_of (List.mem_append_left _ (List.mem_of_getElem? (i := 12) (by rfl))) rfl
theorem ws_M_applyMove : Cond.selects y_M_applyMove.cls y_M_applyMove y_M_applyMove ∈ tg := tg_of (List.mem_append_left _ (List.mem_of_getElem? (i := 13) (by rfl))) rfl
theorem ws_M_know : Cond.selects y_M_know.cls y_M_know y_M_know ∈ tg := tg_of (List.mem_append_left _ (List.mem_of_getElem? (i := 14) (by rfl))) rfl
theorem ws_M_spreadOf : Cond.selects y_M_spreadOf.cls y_M_spreadOf y_M_spreadOf ∈ tg := tg_of (List.mem_append_left _ (List.mem_of_getElem? (i := 15) (by rfl))) rfl
theorem ws_M_nextPart : Cond.selects y_M_nextPart.cls y_M_nextPart y_M_nextPart ∈ tg := tg_of (List.mem_append_left _ (List.mem_of_getElem? (i := 16) (by rfl))) rfl
theorem ws_M_undo : Cond.selects y_M_undo.cls y_M_undo y_M_undo ∈ tg := tg_of (List.mem_append_left _ (List.mem_of_getElem? (i := 17) (by rfl))) rfl
theorem ws_M_keep : Cond.selects y_M_keep.cls y_M_keep y_M_keep ∈ tg := tg_of (List.mem_append_left _ (List.mem_of_getElem? (i := 18) (by rfl))) rfl
theorem ws_M_leastMoved : Cond.selects y_M_leastMoved.cls y_M_leastMoved y_M_leastMoved ∈ tg := tg_of (List.mem_append_left _ (List.mem_of_getElem? (i := 19) (by rfl))) rfl
theorem ws_M_walk : Cond.selects y_M_walk.cls y_M_walk y_M_walk ∈ tg := tg_of (List.mem_append_left _ (List.mem_of_getElem? (i := 20) (by rfl))) rfl
theorem ws_M_put : Cond.selects y_M_put.cls y_M_put y_M_put ∈ tg := tg_of (List.mem_append_left _ (List.mem_of_getElem? (i := 21) (by rfl))) rfl
theorem ws_M_free : Cond.selects y_M_free.cls y_M_free y_M_free ∈ tg := tg_of (List.mem_append_left _ (List.mem_of_getElem? (i := 22) (by rfl))) rfl
theorem ws_M_edgeBetween : Cond.selects y_M_edgeBetween.cls y_M_edgeBetween y_M_edgeBetween ∈ tg := tg_of (List.mem_append_left _ (List.mem_of_getElem? (i := 23) (by rfl))) rfl
theorem ws_M_along : Cond.selects y_M_along.cls y_M_along y_M_along ∈ tg := tg_of (List.mem_append_left _ (List.mem_of_getElem? (i := 24) (by rfl))) rfl
theorem ws_M_spreadSize : Cond.selects y_M_spreadSize.cls y_M_spreadSize y_M_spreadSize ∈ tg := tg_of (List.mem_append_left _ (List.mem_of_getElem? (i := 25) (by rfl))) rfl
theorem ws_M_digitOf : Cond.selects y_M_digitOf.cls y_M_digitOf y_M_digitOf ∈ tg := tg_of (List.mem_append_left _ (List.mem_of_getElem? (i := 26) (by rfl))) rfl
theorem ws_M_orbits : Cond.selects y_M_orbits.cls y_M_orbits y_M_orbits ∈ tg := tg_of (List.mem_append_left _ (List.mem_of_getElem? (i := 27) (by rfl))) rfl
theorem ws_M_share : Cond.selects y_M_share.cls y_M_share y_M_share ∈ tg := tg_of (List.mem_append_left _ (List.mem_of_getElem? (i := 28) (by rfl))) rfl
theorem ws_M_joinSets : Cond.selects y_M_joinSets.cls y_M_joinSets y_M_joinSets ∈ tg := tg_of (List.mem_append_left _ (List.mem_of_getElem? (i := 29) (by rfl))) rfl
theorem ws_M_sizeOf : Cond.selects y_M_sizeOf.cls y_M_sizeOf y_M_sizeOf ∈ tg := tg_of (List.mem_append_left _ (List.mem_of_getElem? (i := 30) (by rfl))) rfl
theorem ws_M_roundOf : Cond.selects y_M_roundOf.cls y_M_roundOf y_M_roundOf ∈ tg := tg_of (List.mem_append_left _ (List.mem_of_getElem? (i := 31) (by rfl))) rfl
theorem wi_C_init : Cond.instanceMethod y_C_init ∈ tg := w_13
theorem wc_C_init : Cond.code y_C_init b_C_init 2 none ∈ tg := w_14
theorem wi_P_init : Cond.instanceMethod y_P_init ∈ tg := w_29
theorem wc_P_init : Cond.code y_P_init b_P_init 2 none ∈ tg := w_30
theorem wi_D_init : Cond.instanceMethod y_D_init ∈ tg := w_40
theorem wc_D_init : Cond.code y_D_init b_D_init 1 none ∈ tg := w_41
theorem wi_C_move : Cond.instanceMethod y_C_move ∈ tg := w_76
theorem ws_C_move : Cond.selects y_C_move.cls y_C_move y_C_move ∈ tg := w_77
theorem wc_C_move : Cond.code y_C_move b_C_move 1 (some .int) ∈ tg := w_78
theorem wi_C_leaveAll : Cond.static y_C_leaveAll ∈ tg := w_80
theorem wc_C_leaveAll : Cond.code y_C_leaveAll b_C_leaveAll 2 none ∈ tg := w_81
theorem wi_C_cycle : Cond.instanceMethod y_C_cycle ∈ tg := w_83
theorem ws_C_cycle : Cond.selects y_C_cycle.cls y_C_cycle y_C_cycle ∈ tg := w_84
theorem wc_C_cycle : Cond.code y_C_cycle b_C_cycle 5 (some .boolean) ∈ tg := w_85
theorem wi_C_isMove : Cond.instanceMethod y_C_isMove ∈ tg := w_88
theorem wc_C_isMove : Cond.code y_C_isMove b_C_isMove 2 (some .boolean) ∈ tg := w_89
theorem wi_C_isPlace : Cond.instanceMethod y_C_isPlace ∈ tg := w_92
theorem wc_C_isPlace : Cond.code y_C_isPlace b_C_isPlace 2 (some .boolean) ∈ tg := w_93
theorem wi_C_run : Cond.instanceMethod y_C_run ∈ tg := w_95
theorem ws_C_run : Cond.selects y_C_run.cls y_C_run y_C_run ∈ tg := w_96
theorem wc_C_run : Cond.code y_C_run b_C_run 4 (some .int) ∈ tg := w_97
theorem wi_C_freshChain : Cond.instanceMethod y_C_freshChain ∈ tg := w_100
theorem wc_C_freshChain : Cond.code y_C_freshChain b_C_freshChain 1 (some (.object "CycleGroups$Chain")) ∈ tg := w_101
theorem wi_H_init : Cond.instanceMethod y_H_init ∈ tg := w_105
theorem wc_H_init : Cond.code y_H_init b_H_init 3 none ∈ tg := w_106
theorem wi_K_init : Cond.instanceMethod y_K_init ∈ tg := w_112
theorem wc_K_init : Cond.code y_K_init b_K_init 5 none ∈ tg := w_113
theorem wi_A_fill : Cond.static y_A_fill ∈ tg := w_117
theorem wc_A_fill : Cond.code y_A_fill b_A_fill 4 none ∈ tg := w_118
theorem wi_H_build : Cond.instanceMethod y_H_build ∈ tg := w_153
theorem ws_H_build : Cond.selects y_H_build.cls y_H_build y_H_build ∈ tg := w_154
theorem wc_H_build : Cond.code y_H_build b_H_build 4 none ∈ tg := w_155
theorem wi_K_clear : Cond.instanceMethod y_K_clear ∈ tg := w_157
theorem ws_K_clear : Cond.selects y_K_clear.cls y_K_clear y_K_clear ∈ tg := w_158
theorem wc_K_clear : Cond.code y_K_clear b_K_clear 2 none ∈ tg := w_159
theorem wi_H_failingPlace : Cond.instanceMethod y_H_failingPlace ∈ tg := w_161
theorem ws_H_failingPlace : Cond.selects y_H_failingPlace.cls y_H_failingPlace y_H_failingPlace ∈ tg := w_162
theorem wc_H_failingPlace : Cond.code y_H_failingPlace b_H_failingPlace 2 (some .int) ∈ tg := w_163
theorem wi_H_siftWork : Cond.instanceMethod y_H_siftWork ∈ tg := w_169
theorem wc_H_siftWork : Cond.code y_H_siftWork b_H_siftWork 3 (some .int) ∈ tg := w_170
theorem wi_K_undo : Cond.instanceMethod y_K_undo ∈ tg := w_172
theorem ws_K_undo : Cond.selects y_K_undo.cls y_K_undo y_K_undo ∈ tg := w_173
theorem wc_K_undo : Cond.code y_K_undo b_K_undo 6 (some .boolean) ∈ tg := w_174
theorem wi_K_addGenerator : Cond.instanceMethod y_K_addGenerator ∈ tg := w_176
theorem ws_K_addGenerator : Cond.selects y_K_addGenerator.cls y_K_addGenerator y_K_addGenerator ∈ tg := w_177
theorem wc_K_addGenerator : Cond.code y_K_addGenerator b_K_addGenerator 2 none ∈ tg := w_178
theorem wi_H_complete : Cond.instanceMethod y_H_complete ∈ tg := w_182
theorem wc_H_complete : Cond.code y_H_complete b_H_complete 3 none ∈ tg := w_183
theorem wi_H_advance : Cond.instanceMethod y_H_advance ∈ tg := w_187
theorem wc_H_advance : Cond.code y_H_advance b_H_advance 5 (some .int) ∈ tg := w_188
theorem wi_K_openGenerator : Cond.instanceMethod y_K_openGenerator ∈ tg := w_190
theorem ws_K_openGenerator : Cond.selects y_K_openGenerator.cls y_K_openGenerator y_K_openGenerator ∈ tg := w_191
theorem wc_K_openGenerator : Cond.code y_K_openGenerator b_K_openGenerator 2 (some .int) ∈ tg := w_192
theorem wi_K_reachesNewPlace : Cond.instanceMethod y_K_reachesNewPlace ∈ tg := w_194
theorem ws_K_reachesNewPlace : Cond.selects y_K_reachesNewPlace.cls y_K_reachesNewPlace y_K_reachesNewPlace ∈ tg := w_195
theorem wc_K_reachesNewPlace : Cond.code y_K_reachesNewPlace b_K_reachesNewPlace 9 (some .boolean) ∈ tg := w_196
theorem wi_K_widen : Cond.instanceMethod y_K_widen ∈ tg := w_199
theorem wc_K_widen : Cond.code y_K_widen b_K_widen 6 none ∈ tg := w_200
theorem wi_H_spreadSize : Cond.instanceMethod y_H_spreadSize ∈ tg := w_202
theorem ws_H_spreadSize : Cond.selects y_H_spreadSize.cls y_H_spreadSize y_H_spreadSize ∈ tg := w_203
theorem wc_H_spreadSize : Cond.code y_H_spreadSize b_H_spreadSize 2 (some .int) ∈ tg := w_204
theorem wi_K_spreadSize : Cond.instanceMethod y_K_spreadSize ∈ tg := w_206
theorem ws_K_spreadSize : Cond.selects y_K_spreadSize.cls y_K_spreadSize y_K_spreadSize ∈ tg := w_207
theorem wc_K_spreadSize : Cond.code y_K_spreadSize b_K_spreadSize 1 (some .int) ∈ tg := w_208
theorem wi_C_base : Cond.instanceMethod y_C_base ∈ tg := w_210
theorem ws_C_base : Cond.selects y_C_base.cls y_C_base y_C_base ∈ tg := w_211
theorem wc_C_base : Cond.code y_C_base b_C_base 5 (some .int) ∈ tg := w_212
theorem wi_C_spread : Cond.instanceMethod y_C_spread ∈ tg := w_214
theorem ws_C_spread : Cond.selects y_C_spread.cls y_C_spread y_C_spread ∈ tg := w_215
theorem wc_C_spread : Cond.code y_C_spread b_C_spread 2 (some .int) ∈ tg := w_216
theorem wi_C_order : Cond.instanceMethod y_C_order ∈ tg := w_218
theorem ws_C_order : Cond.selects y_C_order.cls y_C_order y_C_order ∈ tg := w_219
theorem wc_C_order : Cond.code y_C_order b_C_order 2 (some .int) ∈ tg := w_220
theorem wi_C_countGroup : Cond.instanceMethod y_C_countGroup ∈ tg := w_223
theorem wc_C_countGroup : Cond.code y_C_countGroup b_C_countGroup 3 none ∈ tg := w_224
theorem wi_D_setOne : Cond.instanceMethod y_D_setOne ∈ tg := w_226
theorem ws_D_setOne : Cond.selects y_D_setOne.cls y_D_setOne y_D_setOne ∈ tg := w_227
theorem wc_D_setOne : Cond.code y_D_setOne b_D_setOne 1 none ∈ tg := w_228
theorem wi_D_multiply : Cond.instanceMethod y_D_multiply ∈ tg := w_231
theorem ws_D_multiply : Cond.selects y_D_multiply.cls y_D_multiply y_D_multiply ∈ tg := w_232
theorem wc_D_multiply : Cond.code y_D_multiply b_D_multiply 5 none ∈ tg := w_233
theorem wi_D_digit : Cond.instanceMethod y_D_digit ∈ tg := w_235
theorem ws_D_digit : Cond.selects y_D_digit.cls y_D_digit y_D_digit ∈ tg := w_236
theorem wc_D_digit : Cond.code y_D_digit b_D_digit 2 (some .int) ∈ tg := w_237
theorem wi_D_length : Cond.instanceMethod y_D_length ∈ tg := w_240
theorem wc_D_length : Cond.code y_D_length b_D_length 2 (some .int) ∈ tg := w_241
theorem wi_C_stabiliser : Cond.instanceMethod y_C_stabiliser ∈ tg := w_243
theorem ws_C_stabiliser : Cond.selects y_C_stabiliser.cls y_C_stabiliser y_C_stabiliser ∈ tg := w_244
theorem wc_C_stabiliser : Cond.code y_C_stabiliser b_C_stabiliser 3 (some .int) ∈ tg := w_245
theorem wi_P_separate : Cond.instanceMethod y_P_separate ∈ tg := w_247
theorem ws_P_separate : Cond.selects y_P_separate.cls y_P_separate y_P_separate ∈ tg := w_248
theorem wc_P_separate : Cond.code y_P_separate b_P_separate 1 none ∈ tg := w_249
theorem wi_P_joinOrbits : Cond.instanceMethod y_P_joinOrbits ∈ tg := w_252
theorem ws_P_joinOrbits : Cond.selects y_P_joinOrbits.cls y_P_joinOrbits y_P_joinOrbits ∈ tg := w_253
theorem wc_P_joinOrbits : Cond.code y_P_joinOrbits b_P_joinOrbits 5 none ∈ tg := w_254
theorem wi_P_join : Cond.instanceMethod y_P_join ∈ tg := w_256
theorem ws_P_join : Cond.selects y_P_join.cls y_P_join y_P_join ∈ tg := w_257
theorem wc_P_join : Cond.code y_P_join b_P_join 6 (some .boolean) ∈ tg := w_258
theorem wi_P_sizeWith : Cond.instanceMethod y_P_sizeWith ∈ tg := w_262
theorem ws_P_sizeWith : Cond.selects y_P_sizeWith.cls y_P_sizeWith y_P_sizeWith ∈ tg := w_263
theorem wc_P_sizeWith : Cond.code y_P_sizeWith b_P_sizeWith 4 (some .int) ∈ tg := w_264
theorem wi_D_divide : Cond.instanceMethod y_D_divide ∈ tg := w_266
theorem ws_D_divide : Cond.selects y_D_divide.cls y_D_divide y_D_divide ∈ tg := w_267
theorem wc_D_divide : Cond.code y_D_divide b_D_divide 5 none ∈ tg := w_268
theorem wi_C_orbit : Cond.instanceMethod y_C_orbit ∈ tg := w_270
theorem ws_C_orbit : Cond.selects y_C_orbit.cls y_C_orbit y_C_orbit ∈ tg := w_271
theorem wc_C_orbit : Cond.code y_C_orbit b_C_orbit 2 (some .int) ∈ tg := w_272
theorem wi_P_leastWith : Cond.instanceMethod y_P_leastWith ∈ tg := w_274
theorem ws_P_leastWith : Cond.selects y_P_leastWith.cls y_P_leastWith y_P_leastWith ∈ tg := w_275
theorem wc_P_leastWith : Cond.code y_P_leastWith b_P_leastWith 2 (some .int) ∈ tg := w_276
theorem wi_C_block : Cond.instanceMethod y_C_block ∈ tg := w_278
theorem ws_C_block : Cond.selects y_C_block.cls y_C_block y_C_block ∈ tg := w_279
theorem wc_C_block : Cond.code y_C_block b_C_block 3 (some .int) ∈ tg := w_280
theorem wi_P_joinImages : Cond.instanceMethod y_P_joinImages ∈ tg := w_283
theorem ws_P_joinImages : Cond.selects y_P_joinImages.cls y_P_joinImages y_P_joinImages ∈ tg := w_284
theorem wc_P_joinImages : Cond.code y_P_joinImages b_P_joinImages 6 none ∈ tg := w_285
theorem wi_P_joinImagesOnce : Cond.instanceMethod y_P_joinImagesOnce ∈ tg := w_288
theorem wc_P_joinImagesOnce : Cond.code y_P_joinImagesOnce b_P_joinImagesOnce 4 (some .boolean) ∈ tg := w_289
theorem wi_C_state : Cond.instanceMethod y_C_state ∈ tg := w_291
theorem ws_C_state : Cond.selects y_C_state.cls y_C_state y_C_state ∈ tg := w_292
theorem wc_C_state : Cond.code y_C_state b_C_state 1 (some .int) ∈ tg := w_293
theorem wi_C_apply : Cond.instanceMethod y_C_apply ∈ tg := w_295
theorem ws_C_apply : Cond.selects y_C_apply.cls y_C_apply y_C_apply ∈ tg := w_296
theorem wc_C_apply : Cond.code y_C_apply b_C_apply 3 (some .boolean) ∈ tg := w_297
theorem wi_C_isState : Cond.instanceMethod y_C_isState ∈ tg := w_300
theorem wc_C_isState : Cond.code y_C_isState b_C_isState 2 (some .boolean) ∈ tg := w_301
theorem wi_C_follow : Cond.static y_C_follow ∈ tg := w_303
theorem wc_C_follow : Cond.code y_C_follow b_C_follow 3 none ∈ tg := w_304
theorem wi_C_exchange : Cond.instanceMethod y_C_exchange ∈ tg := w_306
theorem ws_C_exchange : Cond.selects y_C_exchange.cls y_C_exchange y_C_exchange ∈ tg := w_307
theorem wc_C_exchange : Cond.code y_C_exchange b_C_exchange 6 (some .boolean) ∈ tg := w_308
theorem wi_C_scramble : Cond.instanceMethod y_C_scramble ∈ tg := w_310
theorem ws_C_scramble : Cond.selects y_C_scramble.cls y_C_scramble y_C_scramble ∈ tg := w_311
theorem wc_C_scramble : Cond.code y_C_scramble b_C_scramble 9 (some .boolean) ∈ tg := w_312
theorem wi_C_image : Cond.instanceMethod y_C_image ∈ tg := w_316
theorem ws_C_image : Cond.selects y_C_image.cls y_C_image y_C_image ∈ tg := w_317
theorem wc_C_image : Cond.code y_C_image b_C_image 3 (some .int) ∈ tg := w_318
theorem wi_C_member : Cond.instanceMethod y_C_member ∈ tg := w_320
theorem ws_C_member : Cond.selects y_C_member.cls y_C_member y_C_member ∈ tg := w_321
theorem wc_C_member : Cond.code y_C_member b_C_member 2 (some .int) ∈ tg := w_322
theorem wi_C_level : Cond.instanceMethod y_C_level ∈ tg := w_325
theorem ws_C_level : Cond.selects y_C_level.cls y_C_level y_C_level ∈ tg := w_326
theorem wc_C_level : Cond.code y_C_level b_C_level 2 (some .int) ∈ tg := w_327
theorem wi_C_parity : Cond.instanceMethod y_C_parity ∈ tg := w_329
theorem ws_C_parity : Cond.selects y_C_parity.cls y_C_parity y_C_parity ∈ tg := w_330
theorem wc_C_parity : Cond.code y_C_parity b_C_parity 6 (some .int) ∈ tg := w_331
theorem wi_C_times : Cond.instanceMethod y_C_times ∈ tg := w_333
theorem ws_C_times : Cond.selects y_C_times.cls y_C_times y_C_times ∈ tg := w_334
theorem wc_C_times : Cond.code y_C_times b_C_times 5 (some .long) ∈ tg := w_335
theorem wi_C_returnTime : Cond.static y_C_returnTime ∈ tg := w_337
theorem wc_C_returnTime : Cond.code y_C_returnTime b_C_returnTime 4 (some .int) ∈ tg := w_338
theorem wi_C_leastMultiple : Cond.static y_C_leastMultiple ∈ tg := w_340
theorem wc_C_leastMultiple : Cond.code y_C_leastMultiple b_C_leastMultiple 4 (some .long) ∈ tg := w_341
theorem wi_L_cell : Cond.static y_L_cell ∈ tg := w_343
theorem wc_L_cell : Cond.code y_L_cell b_L_cell 2 (some .int) ∈ tg := w_344
theorem wi_M_init : Cond.instanceMethod y_M_init ∈ tg := w_348
theorem wc_M_init : Cond.code y_M_init b_M_init 2 none ∈ tg := w_349
theorem wi_M_move : Cond.instanceMethod y_M_move ∈ tg := w_426
theorem ws_M_move : Cond.selects y_M_move.cls y_M_move y_M_move ∈ tg := w_427
theorem wc_M_move : Cond.code y_M_move b_M_move 2 (some .int) ∈ tg := w_428
theorem wi_M_cycle : Cond.instanceMethod y_M_cycle ∈ tg := w_430
theorem ws_M_cycle : Cond.selects y_M_cycle.cls y_M_cycle y_M_cycle ∈ tg := w_431
theorem wc_M_cycle : Cond.code y_M_cycle b_M_cycle 4 (some .boolean) ∈ tg := w_432
theorem wi_M_isPlace : Cond.instanceMethod y_M_isPlace ∈ tg := w_435
theorem wc_M_isPlace : Cond.code y_M_isPlace b_M_isPlace 2 (some .boolean) ∈ tg := w_436
theorem wi_M_state : Cond.instanceMethod y_M_state ∈ tg := w_438
theorem ws_M_state : Cond.selects y_M_state.cls y_M_state y_M_state ∈ tg := w_439
theorem wc_M_state : Cond.code y_M_state b_M_state 2 (some .int) ∈ tg := w_440
theorem wi_M_apply : Cond.instanceMethod y_M_apply ∈ tg := w_442
theorem ws_M_apply : Cond.selects y_M_apply.cls y_M_apply y_M_apply ∈ tg := w_443
theorem wc_M_apply : Cond.code y_M_apply b_M_apply 3 (some .boolean) ∈ tg := w_444
theorem wi_M_isState : Cond.instanceMethod y_M_isState ∈ tg := w_447
theorem wc_M_isState : Cond.code y_M_isState b_M_isState 2 (some .boolean) ∈ tg := w_448
theorem wi_M_applyMove : Cond.instanceMethod y_M_applyMove ∈ tg := w_451
theorem wc_M_applyMove : Cond.code y_M_applyMove b_M_applyMove 4 none ∈ tg := w_452
theorem wi_M_exchange : Cond.instanceMethod y_M_exchange ∈ tg := w_454
theorem ws_M_exchange : Cond.selects y_M_exchange.cls y_M_exchange y_M_exchange ∈ tg := w_455
theorem wc_M_exchange : Cond.code y_M_exchange b_M_exchange 6 (some .boolean) ∈ tg := w_456
theorem wi_M_scramble : Cond.instanceMethod y_M_scramble ∈ tg := w_458
theorem ws_M_scramble : Cond.selects y_M_scramble.cls y_M_scramble y_M_scramble ∈ tg := w_459
theorem wc_M_scramble : Cond.code y_M_scramble b_M_scramble 8 (some .boolean) ∈ tg := w_460
theorem wi_M_image : Cond.instanceMethod y_M_image ∈ tg := w_464
theorem ws_M_image : Cond.selects y_M_image.cls y_M_image y_M_image ∈ tg := w_465
theorem wc_M_image : Cond.code y_M_image b_M_image 3 (some .int) ∈ tg := w_466
theorem wi_M_spread : Cond.instanceMethod y_M_spread ∈ tg := w_468
theorem ws_M_spread : Cond.selects y_M_spread.cls y_M_spread y_M_spread ∈ tg := w_469
theorem wc_M_spread : Cond.code y_M_spread b_M_spread 2 (some .int) ∈ tg := w_470
theorem wi_M_know : Cond.instanceMethod y_M_know ∈ tg := w_473
theorem wc_M_know : Cond.code y_M_know b_M_know 2 none ∈ tg := w_474
theorem wi_M_spreadOf : Cond.instanceMethod y_M_spreadOf ∈ tg := w_477
theorem wc_M_spreadOf : Cond.code y_M_spreadOf b_M_spreadOf 8 none ∈ tg := w_478
theorem wi_M_nextPart : Cond.instanceMethod y_M_nextPart ∈ tg := w_481
theorem wc_M_nextPart : Cond.code y_M_nextPart b_M_nextPart 5 none ∈ tg := w_482
theorem wi_M_undo : Cond.instanceMethod y_M_undo ∈ tg := w_485
theorem wc_M_undo : Cond.code y_M_undo b_M_undo 4 none ∈ tg := w_486
theorem wi_M_keep : Cond.instanceMethod y_M_keep ∈ tg := w_489
theorem wc_M_keep : Cond.code y_M_keep b_M_keep 13 none ∈ tg := w_490
theorem wi_M_leastMoved : Cond.instanceMethod y_M_leastMoved ∈ tg := w_493
theorem wc_M_leastMoved : Cond.code y_M_leastMoved b_M_leastMoved 2 (some .int) ∈ tg := w_494
theorem wi_M_walk : Cond.instanceMethod y_M_walk ∈ tg := w_497
theorem wc_M_walk : Cond.code y_M_walk b_M_walk 7 (some .boolean) ∈ tg := w_498
theorem wi_M_put : Cond.instanceMethod y_M_put ∈ tg := w_501
theorem wc_M_put : Cond.code y_M_put b_M_put 5 none ∈ tg := w_502
theorem wi_M_free : Cond.instanceMethod y_M_free ∈ tg := w_505
theorem wc_M_free : Cond.code y_M_free b_M_free 2 (some .int) ∈ tg := w_506
theorem wi_M_edgeBetween : Cond.instanceMethod y_M_edgeBetween ∈ tg := w_509
theorem wc_M_edgeBetween : Cond.code y_M_edgeBetween b_M_edgeBetween 5 (some .int) ∈ tg := w_510
theorem wi_M_along : Cond.instanceMethod y_M_along ∈ tg := w_513
theorem wc_M_along : Cond.code y_M_along b_M_along 4 none ∈ tg := w_514
theorem wi_M_spreadSize : Cond.instanceMethod y_M_spreadSize ∈ tg := w_517
theorem wc_M_spreadSize : Cond.code y_M_spreadSize b_M_spreadSize 4 (some .int) ∈ tg := w_518
theorem wi_M_run : Cond.instanceMethod y_M_run ∈ tg := w_520
theorem ws_M_run : Cond.selects y_M_run.cls y_M_run y_M_run ∈ tg := w_521
theorem wc_M_run : Cond.code y_M_run b_M_run 3 (some .int) ∈ tg := w_522
theorem wi_M_base : Cond.instanceMethod y_M_base ∈ tg := w_524
theorem ws_M_base : Cond.selects y_M_base.cls y_M_base y_M_base ∈ tg := w_525
theorem wc_M_base : Cond.code y_M_base b_M_base 4 (some .int) ∈ tg := w_526
theorem wi_M_order : Cond.instanceMethod y_M_order ∈ tg := w_528
theorem ws_M_order : Cond.selects y_M_order.cls y_M_order y_M_order ∈ tg := w_529
theorem wc_M_order : Cond.code y_M_order b_M_order 2 (some .int) ∈ tg := w_530
theorem wi_M_digitOf : Cond.instanceMethod y_M_digitOf ∈ tg := w_533
theorem wc_M_digitOf : Cond.code y_M_digitOf b_M_digitOf 7 (some .int) ∈ tg := w_534
theorem wi_M_orbit : Cond.instanceMethod y_M_orbit ∈ tg := w_536
theorem ws_M_orbit : Cond.selects y_M_orbit.cls y_M_orbit y_M_orbit ∈ tg := w_537
theorem wc_M_orbit : Cond.code y_M_orbit b_M_orbit 2 (some .int) ∈ tg := w_538
theorem wi_M_orbits : Cond.instanceMethod y_M_orbits ∈ tg := w_541
theorem wc_M_orbits : Cond.code y_M_orbits b_M_orbits 3 none ∈ tg := w_542
theorem wi_M_share : Cond.instanceMethod y_M_share ∈ tg := w_545
theorem wc_M_share : Cond.code y_M_share b_M_share 2 none ∈ tg := w_546
theorem wi_M_joinSets : Cond.instanceMethod y_M_joinSets ∈ tg := w_549
theorem wc_M_joinSets : Cond.code y_M_joinSets b_M_joinSets 6 (some .boolean) ∈ tg := w_550
theorem wi_M_stabiliser : Cond.instanceMethod y_M_stabiliser ∈ tg := w_552
theorem ws_M_stabiliser : Cond.selects y_M_stabiliser.cls y_M_stabiliser y_M_stabiliser ∈ tg := w_553
theorem wc_M_stabiliser : Cond.code y_M_stabiliser b_M_stabiliser 3 (some .int) ∈ tg := w_554
theorem wi_M_sizeOf : Cond.instanceMethod y_M_sizeOf ∈ tg := w_557
theorem wc_M_sizeOf : Cond.code y_M_sizeOf b_M_sizeOf 4 (some .int) ∈ tg := w_558
theorem wi_M_block : Cond.instanceMethod y_M_block ∈ tg := w_560
theorem ws_M_block : Cond.selects y_M_block.cls y_M_block y_M_block ∈ tg := w_561
theorem wc_M_block : Cond.code y_M_block b_M_block 6 (some .int) ∈ tg := w_562
theorem wi_M_level : Cond.instanceMethod y_M_level ∈ tg := w_564
theorem ws_M_level : Cond.selects y_M_level.cls y_M_level y_M_level ∈ tg := w_565
theorem wc_M_level : Cond.code y_M_level b_M_level 3 (some .int) ∈ tg := w_566
theorem wi_M_member : Cond.instanceMethod y_M_member ∈ tg := w_568
theorem ws_M_member : Cond.selects y_M_member.cls y_M_member y_M_member ∈ tg := w_569
theorem wc_M_member : Cond.code y_M_member b_M_member 3 (some .int) ∈ tg := w_570
theorem wi_M_parity : Cond.instanceMethod y_M_parity ∈ tg := w_573
theorem ws_M_parity : Cond.selects y_M_parity.cls y_M_parity y_M_parity ∈ tg := w_574
theorem wc_M_parity : Cond.code y_M_parity b_M_parity 5 (some .int) ∈ tg := w_575
theorem wi_M_times : Cond.instanceMethod y_M_times ∈ tg := w_577
theorem ws_M_times : Cond.selects y_M_times.cls y_M_times y_M_times ∈ tg := w_578
theorem wc_M_times : Cond.code y_M_times b_M_times 6 (some .long) ∈ tg := w_579
theorem wi_M_roundOf : Cond.instanceMethod y_M_roundOf ∈ tg := w_582
theorem wc_M_roundOf : Cond.code y_M_roundOf b_M_roundOf 5 (some .int) ∈ tg := w_583
