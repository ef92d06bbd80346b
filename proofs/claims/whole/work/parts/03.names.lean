def R_W : String := "HouseFunctions$Wide"
def F_W : u_T := fun k => match k with
  | 0 => ("HouseFunctions$Wide", "limbs", "[J", true)
  | _ => ("HouseFunctions$Wide", "product", "[J", true)
def ft_W : Nat → FieldType := fun k => match k with
  | 0 => .array .long
  | _ => .array .long
theorem nm_W : ∀ a, a < 2 → ∀ b, b < 2 → a ≠ b → (F_W a).2.1 ≠ (F_W b).2.1 := by decide +kernel
theorem tk_W : ∀ k, k < 2 → parseFieldDescriptor (F_W k).2.2.1 = some (ft_W k) := by decide +kernel
def R_K : String := "HouseFunctions$Reckoner"
def F_K : u_T := fun k => match k with
  | 0 => ("HouseFunctions$Reckoner", "value", "LHouseFunctions$Wide;", true)
  | 1 => ("HouseFunctions$Reckoner", "term", "LHouseFunctions$Wide;", true)
  | 2 => ("HouseFunctions$Reckoner", "factor", "LHouseFunctions$Wide;", true)
  | 3 => ("HouseFunctions$Reckoner", "part", "LHouseFunctions$Wide;", true)
  | _ => ("HouseFunctions$Reckoner", "kept", "LHouseFunctions$Wide;", true)
def ft_K : Nat → FieldType := fun k => match k with
  | 0 => .object "HouseFunctions$Wide"
  | 1 => .object "HouseFunctions$Wide"
  | 2 => .object "HouseFunctions$Wide"
  | 3 => .object "HouseFunctions$Wide"
  | _ => .object "HouseFunctions$Wide"
theorem nm_K : ∀ a, a < 5 → ∀ b, b < 5 → a ≠ b → (F_K a).2.1 ≠ (F_K b).2.1 := by decide +kernel
theorem tk_K : ∀ k, k < 5 → parseFieldDescriptor (F_K k).2.2.1 = some (ft_K k) := by decide +kernel
def R_T : String := "HouseFunctions$Table"
def F_T : u_T := fun k => match k with
  | 0 => ("HouseFunctions$Table", "places", "[I", true)
  | 1 => ("HouseFunctions$Table", "values", "[I", true)
  | _ => ("HouseFunctions$Table", "count", "I", false)
def ft_T : Nat → FieldType := fun k => match k with
  | 0 => .array .int
  | 1 => .array .int
  | _ => .int
theorem nm_T : ∀ a, a < 3 → ∀ b, b < 3 → a ≠ b → (F_T a).2.1 ≠ (F_T b).2.1 := by decide +kernel
theorem tk_T : ∀ k, k < 3 → parseFieldDescriptor (F_T k).2.2.1 = some (ft_T k) := by decide +kernel
def R_F : String := "HouseFunctions"
def F_F : u_T := fun k => match k with
  | 0 => ("HouseFunctions", "seed", "J", true)
  | 1 => ("HouseFunctions", "tables", "[LHouseFunctions$Table;", true)
  | 2 => ("HouseFunctions", "tableCount", "I", false)
  | _ => ("HouseFunctions", "reckoner", "LHouseFunctions$Reckoner;", true)
def ft_F : Nat → FieldType := fun k => match k with
  | 0 => .long
  | 1 => .array (.object "HouseFunctions$Table")
  | 2 => .int
  | _ => .object "HouseFunctions$Reckoner"
theorem nm_F : ∀ a, a < 4 → ∀ b, b < 4 → a ≠ b → (F_F a).2.1 ≠ (F_F b).2.1 := by decide +kernel
theorem tk_F : ∀ k, k < 4 → parseFieldDescriptor (F_F k).2.2.1 = some (ft_F k) := by decide +kernel
def R_M : String := "HouseFunctionsModel"
def F_M : u_T := fun k => match k with
  | 0 => ("HouseFunctionsModel", "thrown", "I", false)
  | 1 => ("HouseFunctionsModel", "seed", "J", true)
  | 2 => ("HouseFunctionsModel", "tables", "I", false)
  | 3 => ("HouseFunctionsModel", "rows", "[I", true)
  | 4 => ("HouseFunctionsModel", "places", "[I", true)
  | 5 => ("HouseFunctionsModel", "values", "[I", true)
  | 6 => ("HouseFunctionsModel", "f", "I", false)
  | 7 => ("HouseFunctionsModel", "parts", "[J", true)
  | _ => ("HouseFunctionsModel", "product", "[J", true)
def ft_M : Nat → FieldType := fun k => match k with
  | 0 => .int
  | 1 => .long
  | 2 => .int
  | 3 => .array .int
  | 4 => .array .int
  | 5 => .array .int
  | 6 => .int
  | 7 => .array .long
  | _ => .array .long
theorem nm_M : ∀ a, a < 9 → ∀ b, b < 9 → a ≠ b → (F_M a).2.1 ≠ (F_M b).2.1 := by decide +kernel
theorem tk_M : ∀ k, k < 9 → parseFieldDescriptor (F_M k).2.2.1 = some (ft_M k) := by decide +kernel
abbrev cl9 : List vw_C := [(R_W, F_W, 2), (R_K, F_K, 5), (R_T, F_T, 3), (R_F, F_F, 4), (R_M, F_M, 9)]
theorem gi_of {al ws : List Cond} (hg : al.all goodWord = true) (h : ∀ w ∈ ws, w ∈ al) : GoodIn al ws := fun w hw => ⟨h w hw, good_of_word (List.all_eq_true.mp hg w (h w hw))⟩
def al_W : List Jvm.Cond := [(Jvm.Cond.initialized "HouseFunctions$Wide"),
  (Jvm.Cond.instantiable "HouseFunctions$Wide" (2 : Nat)),
  (Jvm.Cond.instanceMethod ({ cls := "HouseFunctions$Wide", name := "<init>", desc := "()V" } : Jvm.MethodName)),
  (Jvm.Cond.code ({ cls := "HouseFunctions$Wide", name := "<init>", desc := "()V" } : Jvm.MethodName) prog_4_method_1_code (1 : Nat) (Option.none : Option Jvm.ClassFile.FieldType)),
  (Jvm.Cond.methodLink "HouseFunctions$Wide" (1 : Nat) ({ cls := "java/lang/Object", name := "<init>", desc := "()V" } : Jvm.MethodName)),
  (Jvm.Cond.fieldLink "HouseFunctions$Wide" (9 : Nat) "HouseFunctions$Wide" "limbs" "[J"),
  (Jvm.Cond.fieldLink "HouseFunctions$Wide" (13 : Nat) "HouseFunctions$Wide" "product" "[J"),
  (Jvm.Cond.laysFinal "HouseFunctions$Wide" "HouseFunctions$Wide" "limbs" "[J"),
  (Jvm.Cond.laysFinal "HouseFunctions$Wide" "HouseFunctions$Wide" "product" "[J"),
  (Jvm.Cond.instanceMethod ({ cls := "HouseFunctions$Wide", name := "load", desc := "(J)V" } : Jvm.MethodName)),
  (Jvm.Cond.selects "HouseFunctions$Wide" ({ cls := "HouseFunctions$Wide", name := "load", desc := "(J)V" } : Jvm.MethodName) ({ cls := "HouseFunctions$Wide", name := "load", desc := "(J)V" } : Jvm.MethodName)),
  (Jvm.Cond.code ({ cls := "HouseFunctions$Wide", name := "load", desc := "(J)V" } : Jvm.MethodName) prog_4_method_2_code (3 : Nat) (Option.none : Option Jvm.ClassFile.FieldType)),
  (Jvm.Cond.methodLink "HouseFunctions$Wide" (16 : Nat) ({ cls := "java/util/Arrays", name := "fill", desc := "([JJ)V" } : Jvm.MethodName)),
  (Jvm.Cond.constantLong "HouseFunctions$Wide" (22 : Nat) (4294967295 : Int64)),
  (Jvm.Cond.instanceMethod ({ cls := "HouseFunctions$Wide", name := "isZero", desc := "()Z" } : Jvm.MethodName)),
  (Jvm.Cond.selects "HouseFunctions$Wide" ({ cls := "HouseFunctions$Wide", name := "isZero", desc := "()Z" } : Jvm.MethodName) ({ cls := "HouseFunctions$Wide", name := "isZero", desc := "()Z" } : Jvm.MethodName)),
  (Jvm.Cond.code ({ cls := "HouseFunctions$Wide", name := "isZero", desc := "()Z" } : Jvm.MethodName) prog_4_method_16_code (2 : Nat) (Option.some Jvm.ClassFile.FieldType.boolean)),
  (Jvm.Cond.instanceMethod ({ cls := "HouseFunctions$Wide", name := "scale", desc := "(J)V" } : Jvm.MethodName)),
  (Jvm.Cond.selects "HouseFunctions$Wide" ({ cls := "HouseFunctions$Wide", name := "scale", desc := "(J)V" } : Jvm.MethodName) ({ cls := "HouseFunctions$Wide", name := "scale", desc := "(J)V" } : Jvm.MethodName)),
  (Jvm.Cond.code ({ cls := "HouseFunctions$Wide", name := "scale", desc := "(J)V" } : Jvm.MethodName) prog_4_method_11_code (8 : Nat) (Option.none : Option Jvm.ClassFile.FieldType)),
  (Jvm.Cond.instanceMethod ({ cls := "HouseFunctions$Wide", name := "divide", desc := "(J)V" } : Jvm.MethodName)),
  (Jvm.Cond.selects "HouseFunctions$Wide" ({ cls := "HouseFunctions$Wide", name := "divide", desc := "(J)V" } : Jvm.MethodName) ({ cls := "HouseFunctions$Wide", name := "divide", desc := "(J)V" } : Jvm.MethodName)),
  (Jvm.Cond.code ({ cls := "HouseFunctions$Wide", name := "divide", desc := "(J)V" } : Jvm.MethodName) prog_4_method_12_code (14 : Nat) (Option.none : Option Jvm.ClassFile.FieldType)),
  (Jvm.Cond.constantLong "HouseFunctions$Wide" (38 : Nat) (140737488355328 : Int64)),
  (Jvm.Cond.constantLong "HouseFunctions$Wide" (40 : Nat) (65535 : Int64)),
  (Jvm.Cond.instanceMethod ({ cls := "HouseFunctions$Wide", name := "addOrSubtract", desc := "(LHouseFunctions$Wide;Z)V" } : Jvm.MethodName)),
  (Jvm.Cond.selects "HouseFunctions$Wide" ({ cls := "HouseFunctions$Wide", name := "addOrSubtract", desc := "(LHouseFunctions$Wide;Z)V" } : Jvm.MethodName) ({ cls := "HouseFunctions$Wide", name := "addOrSubtract", desc := "(LHouseFunctions$Wide;Z)V" } : Jvm.MethodName)),
  (Jvm.Cond.code ({ cls := "HouseFunctions$Wide", name := "addOrSubtract", desc := "(LHouseFunctions$Wide;Z)V" } : Jvm.MethodName) prog_4_method_9_code (3 : Nat) (Option.none : Option Jvm.ClassFile.FieldType)),
  (Jvm.Cond.methodLink "HouseFunctions$Wide" (31 : Nat) ({ cls := "HouseFunctions$Wide", name := "subtract", desc := "(LHouseFunctions$Wide;)V" } : Jvm.MethodName)),
  (Jvm.Cond.instanceMethod ({ cls := "HouseFunctions$Wide", name := "subtract", desc := "(LHouseFunctions$Wide;)V" } : Jvm.MethodName)),
  (Jvm.Cond.selects "HouseFunctions$Wide" ({ cls := "HouseFunctions$Wide", name := "subtract", desc := "(LHouseFunctions$Wide;)V" } : Jvm.MethodName) ({ cls := "HouseFunctions$Wide", name := "subtract", desc := "(LHouseFunctions$Wide;)V" } : Jvm.MethodName)),
  (Jvm.Cond.code ({ cls := "HouseFunctions$Wide", name := "subtract", desc := "(LHouseFunctions$Wide;)V" } : Jvm.MethodName) prog_4_method_8_code (7 : Nat) (Option.none : Option Jvm.ClassFile.FieldType)),
  (Jvm.Cond.methodLink "HouseFunctions$Wide" (35 : Nat) ({ cls := "HouseFunctions$Wide", name := "add", desc := "(LHouseFunctions$Wide;)V" } : Jvm.MethodName)),
  (Jvm.Cond.instanceMethod ({ cls := "HouseFunctions$Wide", name := "add", desc := "(LHouseFunctions$Wide;)V" } : Jvm.MethodName)),
  (Jvm.Cond.selects "HouseFunctions$Wide" ({ cls := "HouseFunctions$Wide", name := "add", desc := "(LHouseFunctions$Wide;)V" } : Jvm.MethodName) ({ cls := "HouseFunctions$Wide", name := "add", desc := "(LHouseFunctions$Wide;)V" } : Jvm.MethodName)),
  (Jvm.Cond.code ({ cls := "HouseFunctions$Wide", name := "add", desc := "(LHouseFunctions$Wide;)V" } : Jvm.MethodName) prog_4_method_7_code (7 : Nat) (Option.none : Option Jvm.ClassFile.FieldType)),
  (Jvm.Cond.instanceMethod ({ cls := "HouseFunctions$Wide", name := "multiply", desc := "(LHouseFunctions$Wide;)V" } : Jvm.MethodName)),
  (Jvm.Cond.selects "HouseFunctions$Wide" ({ cls := "HouseFunctions$Wide", name := "multiply", desc := "(LHouseFunctions$Wide;)V" } : Jvm.MethodName) ({ cls := "HouseFunctions$Wide", name := "multiply", desc := "(LHouseFunctions$Wide;)V" } : Jvm.MethodName)),
  (Jvm.Cond.code ({ cls := "HouseFunctions$Wide", name := "multiply", desc := "(LHouseFunctions$Wide;)V" } : Jvm.MethodName) prog_4_method_13_code (2 : Nat) (Option.none : Option Jvm.ClassFile.FieldType)),
  (Jvm.Cond.methodLink "HouseFunctions$Wide" (42 : Nat) ({ cls := "HouseFunctions$Wide", name := "multiplyAndDrop", desc := "(LHouseFunctions$Wide;I)V" } : Jvm.MethodName)),
  (Jvm.Cond.instanceMethod ({ cls := "HouseFunctions$Wide", name := "multiplyAndDrop", desc := "(LHouseFunctions$Wide;I)V" } : Jvm.MethodName)),
  (Jvm.Cond.code ({ cls := "HouseFunctions$Wide", name := "multiplyAndDrop", desc := "(LHouseFunctions$Wide;I)V" } : Jvm.MethodName) prog_4_method_15_code (11 : Nat) (Option.none : Option Jvm.ClassFile.FieldType)),
  (Jvm.Cond.methodLink "HouseFunctions$Wide" (46 : Nat) ({ cls := "java/lang/Math", name := "max", desc := "(II)I" } : Jvm.MethodName)),
  (Jvm.Cond.instanceMethod ({ cls := "HouseFunctions$Wide", name := "whole", desc := "()J" } : Jvm.MethodName)),
  (Jvm.Cond.selects "HouseFunctions$Wide" ({ cls := "HouseFunctions$Wide", name := "whole", desc := "()J" } : Jvm.MethodName) ({ cls := "HouseFunctions$Wide", name := "whole", desc := "()J" } : Jvm.MethodName)),
  (Jvm.Cond.code ({ cls := "HouseFunctions$Wide", name := "whole", desc := "()J" } : Jvm.MethodName) prog_4_method_19_code (1 : Nat) (Option.some Jvm.ClassFile.FieldType.long)),
  (Jvm.Cond.instanceMethod ({ cls := "HouseFunctions$Wide", name := "loadRatio", desc := "(JJ)V" } : Jvm.MethodName)),
  (Jvm.Cond.selects "HouseFunctions$Wide" ({ cls := "HouseFunctions$Wide", name := "loadRatio", desc := "(JJ)V" } : Jvm.MethodName) ({ cls := "HouseFunctions$Wide", name := "loadRatio", desc := "(JJ)V" } : Jvm.MethodName)),
  (Jvm.Cond.code ({ cls := "HouseFunctions$Wide", name := "loadRatio", desc := "(JJ)V" } : Jvm.MethodName) prog_4_method_4_code (5 : Nat) (Option.none : Option Jvm.ClassFile.FieldType)),
  (Jvm.Cond.methodLink "HouseFunctions$Wide" (24 : Nat) ({ cls := "HouseFunctions$Wide", name := "load", desc := "(J)V" } : Jvm.MethodName)),
  (Jvm.Cond.methodLink "HouseFunctions$Wide" (28 : Nat) ({ cls := "HouseFunctions$Wide", name := "divide", desc := "(J)V" } : Jvm.MethodName)),
  (Jvm.Cond.instanceMethod ({ cls := "HouseFunctions$Wide", name := "loadWide", desc := "(LHouseFunctions$Wide;)V" } : Jvm.MethodName)),
  (Jvm.Cond.selects "HouseFunctions$Wide" ({ cls := "HouseFunctions$Wide", name := "loadWide", desc := "(LHouseFunctions$Wide;)V" } : Jvm.MethodName) ({ cls := "HouseFunctions$Wide", name := "loadWide", desc := "(LHouseFunctions$Wide;)V" } : Jvm.MethodName)),
  (Jvm.Cond.code ({ cls := "HouseFunctions$Wide", name := "loadWide", desc := "(LHouseFunctions$Wide;)V" } : Jvm.MethodName) prog_4_method_5_code (3 : Nat) (Option.none : Option Jvm.ClassFile.FieldType)),
  (Jvm.Cond.instanceMethod ({ cls := "HouseFunctions$Wide", name := "negate", desc := "()V" } : Jvm.MethodName)),
  (Jvm.Cond.selects "HouseFunctions$Wide" ({ cls := "HouseFunctions$Wide", name := "negate", desc := "()V" } : Jvm.MethodName) ({ cls := "HouseFunctions$Wide", name := "negate", desc := "()V" } : Jvm.MethodName)),
  (Jvm.Cond.code ({ cls := "HouseFunctions$Wide", name := "negate", desc := "()V" } : Jvm.MethodName) prog_4_method_10_code (6 : Nat) (Option.none : Option Jvm.ClassFile.FieldType)),
  (Jvm.Cond.instanceMethod ({ cls := "HouseFunctions$Wide", name := "loadLimbs", desc := "([JI)V" } : Jvm.MethodName)),
  (Jvm.Cond.selects "HouseFunctions$Wide" ({ cls := "HouseFunctions$Wide", name := "loadLimbs", desc := "([JI)V" } : Jvm.MethodName) ({ cls := "HouseFunctions$Wide", name := "loadLimbs", desc := "([JI)V" } : Jvm.MethodName)),
  (Jvm.Cond.code ({ cls := "HouseFunctions$Wide", name := "loadLimbs", desc := "([JI)V" } : Jvm.MethodName) prog_4_method_6_code (5 : Nat) (Option.none : Option Jvm.ClassFile.FieldType)),
  (Jvm.Cond.instanceMethod ({ cls := "HouseFunctions$Wide", name := "loadInteger", desc := "(J)V" } : Jvm.MethodName)),
  (Jvm.Cond.selects "HouseFunctions$Wide" ({ cls := "HouseFunctions$Wide", name := "loadInteger", desc := "(J)V" } : Jvm.MethodName) ({ cls := "HouseFunctions$Wide", name := "loadInteger", desc := "(J)V" } : Jvm.MethodName)),
  (Jvm.Cond.code ({ cls := "HouseFunctions$Wide", name := "loadInteger", desc := "(J)V" } : Jvm.MethodName) prog_4_method_3_code (3 : Nat) (Option.none : Option Jvm.ClassFile.FieldType)),
  (Jvm.Cond.instanceMethod ({ cls := "HouseFunctions$Wide", name := "multiplyInteger", desc := "(LHouseFunctions$Wide;)V" } : Jvm.MethodName)),
  (Jvm.Cond.selects "HouseFunctions$Wide" ({ cls := "HouseFunctions$Wide", name := "multiplyInteger", desc := "(LHouseFunctions$Wide;)V" } : Jvm.MethodName) ({ cls := "HouseFunctions$Wide", name := "multiplyInteger", desc := "(LHouseFunctions$Wide;)V" } : Jvm.MethodName)),
  (Jvm.Cond.code ({ cls := "HouseFunctions$Wide", name := "multiplyInteger", desc := "(LHouseFunctions$Wide;)V" } : Jvm.MethodName) prog_4_method_14_code (2 : Nat) (Option.none : Option Jvm.ClassFile.FieldType)),
  (Jvm.Cond.instanceMethod ({ cls := "HouseFunctions$Wide", name := "isAbove", desc := "(LHouseFunctions$Wide;)Z" } : Jvm.MethodName)),
  (Jvm.Cond.selects "HouseFunctions$Wide" ({ cls := "HouseFunctions$Wide", name := "isAbove", desc := "(LHouseFunctions$Wide;)Z" } : Jvm.MethodName) ({ cls := "HouseFunctions$Wide", name := "isAbove", desc := "(LHouseFunctions$Wide;)Z" } : Jvm.MethodName)),
  (Jvm.Cond.code ({ cls := "HouseFunctions$Wide", name := "isAbove", desc := "(LHouseFunctions$Wide;)Z" } : Jvm.MethodName) prog_4_method_18_code (3 : Nat) (Option.some Jvm.ClassFile.FieldType.boolean)),
  (Jvm.Cond.instanceMethod ({ cls := "HouseFunctions$Wide", name := "isNegative", desc := "()Z" } : Jvm.MethodName)),
  (Jvm.Cond.selects "HouseFunctions$Wide" ({ cls := "HouseFunctions$Wide", name := "isNegative", desc := "()Z" } : Jvm.MethodName) ({ cls := "HouseFunctions$Wide", name := "isNegative", desc := "()Z" } : Jvm.MethodName)),
  (Jvm.Cond.code ({ cls := "HouseFunctions$Wide", name := "isNegative", desc := "()Z" } : Jvm.MethodName) prog_4_method_17_code (1 : Nat) (Option.some Jvm.ClassFile.FieldType.boolean)),
  (Jvm.Cond.constantLong "HouseFunctions$Wide" (52 : Nat) (2147483648 : Int64)),
  (Jvm.Cond.selects "HouseFunctions$Wide" ({ cls := "HouseFunctions$Wide", name := "multiplyAndDrop", desc := "(LHouseFunctions$Wide;I)V" } : Jvm.MethodName) ({ cls := "HouseFunctions$Wide", name := "multiplyAndDrop", desc := "(LHouseFunctions$Wide;I)V" } : Jvm.MethodName)),
  (Jvm.Cond.instanceMethod ({ cls := "java/lang/Object", name := "<init>", desc := "()V" } : Jvm.MethodName)),
  (Jvm.Cond.code ({ cls := "java/lang/Object", name := "<init>", desc := "()V" } : Jvm.MethodName) object_method_1_code (1 : Nat) (Option.none : Option Jvm.ClassFile.FieldType)),
  (Jvm.Cond.initialized "java/util/Arrays"),
  (Jvm.Cond.static ({ cls := "java/util/Arrays", name := "fill", desc := "([JJ)V" } : Jvm.MethodName)),
  (Jvm.Cond.code ({ cls := "java/util/Arrays", name := "fill", desc := "([JJ)V" } : Jvm.MethodName) prog_14_method_101_code (5 : Nat) (Option.none : Option Jvm.ClassFile.FieldType)),
  (Jvm.Cond.initialized "java/lang/Math"),
  (Jvm.Cond.static ({ cls := "java/lang/Math", name := "max", desc := "(II)I" } : Jvm.MethodName)),
  (Jvm.Cond.code ({ cls := "java/lang/Math", name := "max", desc := "(II)I" } : Jvm.MethodName) prog_10_method_65_code (2 : Nat) (Option.some Jvm.ClassFile.FieldType.int)),
  (Jvm.Cond.arrayClass Jvm.ClassFile.FieldType.long)]
set_option maxRecDepth 20000 in
theorem ag_W : al_W.all goodWord = true := by decide +kernel
set_option maxRecDepth 20000 in
theorem ui_W : ∀ w ∈ u_ws R_W F_W 2, w ∈ al_W := by decide +kernel
theorem sb_W_W : ∀ w ∈ al_W, w ∈ al_W := fun _ h => h
theorem wm_W_0 : (Jvm.Cond.initialized "HouseFunctions$Wide") ∈ al_W := List.mem_of_getElem? (i := 0) rfl
theorem wm_W_1 : (Jvm.Cond.instantiable "HouseFunctions$Wide" (2 : Nat)) ∈ al_W := List.mem_of_getElem? (i := 1) rfl
theorem wm_W_2 : (Jvm.Cond.instanceMethod ({ cls := "HouseFunctions$Wide", name := "<init>", desc := "()V" } : Jvm.MethodName)) ∈ al_W := List.mem_of_getElem? (i := 2) rfl
theorem wm_W_3 : (Jvm.Cond.code ({ cls := "HouseFunctions$Wide", name := "<init>", desc := "()V" } : Jvm.MethodName) prog_4_method_1_code (1 : Nat) (Option.none : Option Jvm.ClassFile.FieldType)) ∈ al_W := List.mem_of_getElem? (i := 3) rfl
theorem wm_W_4 : (Jvm.Cond.methodLink "HouseFunctions$Wide" (1 : Nat) ({ cls := "java/lang/Object", name := "<init>", desc := "()V" } : Jvm.MethodName)) ∈ al_W := List.mem_of_getElem? (i := 4) rfl
theorem wm_W_5 : (Jvm.Cond.fieldLink "HouseFunctions$Wide" (9 : Nat) "HouseFunctions$Wide" "limbs" "[J") ∈ al_W := List.mem_of_getElem? (i := 5) rfl
theorem wm_W_6 : (Jvm.Cond.fieldLink "HouseFunctions$Wide" (13 : Nat) "HouseFunctions$Wide" "product" "[J") ∈ al_W := List.mem_of_getElem? (i := 6) rfl
theorem wm_W_7 : (Jvm.Cond.laysFinal "HouseFunctions$Wide" "HouseFunctions$Wide" "limbs" "[J") ∈ al_W := List.mem_of_getElem? (i := 7) rfl
theorem wm_W_8 : (Jvm.Cond.laysFinal "HouseFunctions$Wide" "HouseFunctions$Wide" "product" "[J") ∈ al_W := List.mem_of_getElem? (i := 8) rfl
theorem wm_W_9 : (Jvm.Cond.instanceMethod ({ cls := "HouseFunctions$Wide", name := "load", desc := "(J)V" } : Jvm.MethodName)) ∈ al_W := List.mem_of_getElem? (i := 9) rfl
theorem wm_W_10 : (Jvm.Cond.selects "HouseFunctions$Wide" ({ cls := "HouseFunctions$Wide", name := "load", desc := "(J)V" } : Jvm.MethodName) ({ cls := "HouseFunctions$Wide", name := "load", desc := "(J)V" } : Jvm.MethodName)) ∈ al_W := List.mem_of_getElem? (i := 10) rfl
theorem wm_W_11 : (Jvm.Cond.code ({ cls := "HouseFunctions$Wide", name := "load", desc := "(J)V" } : Jvm.MethodName) prog_4_method_2_code (3 : Nat) (Option.none : Option Jvm.ClassFile.FieldType)) ∈ al_W := List.mem_of_getElem? (i := 11) rfl
theorem wm_W_12 : (Jvm.Cond.methodLink "HouseFunctions$Wide" (16 : Nat) ({ cls := "java/util/Arrays", name := "fill", desc := "([JJ)V" } : Jvm.MethodName)) ∈ al_W := List.mem_of_getElem? (i := 12) rfl
theorem wm_W_13 : (Jvm.Cond.constantLong "HouseFunctions$Wide" (22 : Nat) (4294967295 : Int64)) ∈ al_W := List.mem_of_getElem? (i := 13) rfl
theorem wm_W_14 : (Jvm.Cond.instanceMethod ({ cls := "HouseFunctions$Wide", name := "isZero", desc := "()Z" } : Jvm.MethodName)) ∈ al_W := List.mem_of_getElem? (i := 14) rfl
theorem wm_W_15 : (Jvm.Cond.selects "HouseFunctions$Wide" ({ cls := "HouseFunctions$Wide", name := "isZero", desc := "()Z" } : Jvm.MethodName) ({ cls := "HouseFunctions$Wide", name := "isZero", desc := "()Z" } : Jvm.MethodName)) ∈ al_W := List.mem_of_getElem? (i := 15) rfl
theorem wm_W_16 : (Jvm.Cond.code ({ cls := "HouseFunctions$Wide", name := "isZero", desc := "()Z" } : Jvm.MethodName) prog_4_method_16_code (2 : Nat) (Option.some Jvm.ClassFile.FieldType.boolean)) ∈ al_W := List.mem_of_getElem? (i := 16) rfl
theorem wm_W_17 : (Jvm.Cond.instanceMethod ({ cls := "HouseFunctions$Wide", name := "scale", desc := "(J)V" } : Jvm.MethodName)) ∈ al_W := List.mem_of_getElem? (i := 17) rfl
theorem wm_W_18 : (Jvm.Cond.selects "HouseFunctions$Wide" ({ cls := "HouseFunctions$Wide", name := "scale", desc := "(J)V" } : Jvm.MethodName) ({ cls := "HouseFunctions$Wide", name := "scale", desc := "(J)V" } : Jvm.MethodName)) ∈ al_W := List.mem_of_getElem? (i := 18) rfl
theorem wm_W_19 : (Jvm.Cond.code ({ cls := "HouseFunctions$Wide", name := "scale", desc := "(J)V" } : Jvm.MethodName) prog_4_method_11_code (8 : Nat) (Option.none : Option Jvm.ClassFile.FieldType)) ∈ al_W := List.mem_of_getElem? (i := 19) rfl
theorem wm_W_20 : (Jvm.Cond.instanceMethod ({ cls := "HouseFunctions$Wide", name := "divide", desc := "(J)V" } : Jvm.MethodName)) ∈ al_W := List.mem_of_getElem? (i := 20) rfl
theorem wm_W_21 : (Jvm.Cond.selects "HouseFunctions$Wide" ({ cls := "HouseFunctions$Wide", name := "divide", desc := "(J)V" } : Jvm.MethodName) ({ cls := "HouseFunctions$Wide", name := "divide", desc := "(J)V" } : Jvm.MethodName)) ∈ al_W := List.mem_of_getElem? (i := 21) rfl
theorem wm_W_22 : (Jvm.Cond.code ({ cls := "HouseFunctions$Wide", name := "divide", desc := "(J)V" } : Jvm.MethodName) prog_4_method_12_code (14 : Nat) (Option.none : Option Jvm.ClassFile.FieldType)) ∈ al_W := List.mem_of_getElem? (i := 22) rfl
theorem wm_W_23 : (Jvm.Cond.constantLong "HouseFunctions$Wide" (38 : Nat) (140737488355328 : Int64)) ∈ al_W := List.mem_of_getElem? (i := 23) rfl
theorem wm_W_24 : (Jvm.Cond.constantLong "HouseFunctions$Wide" (40 : Nat) (65535 : Int64)) ∈ al_W := List.mem_of_getElem? (i := 24) rfl
theorem wm_W_25 : (Jvm.Cond.instanceMethod ({ cls := "HouseFunctions$Wide", name := "addOrSubtract", desc := "(LHouseFunctions$Wide;Z)V" } : Jvm.MethodName)) ∈ al_W := List.mem_of_getElem? (i := 25) rfl
theorem wm_W_26 : (Jvm.Cond.selects "HouseFunctions$Wide" ({ cls := "HouseFunctions$Wide", name := "addOrSubtract", desc := "(LHouseFunctions$Wide;Z)V" } : Jvm.MethodName) ({ cls := "HouseFunctions$Wide", name := "addOrSubtract", desc := "(LHouseFunctions$Wide;Z)V" } : Jvm.MethodName)) ∈ al_W := List.mem_of_getElem? (i := 26) rfl
theorem wm_W_27 : (Jvm.Cond.code ({ cls := "HouseFunctions$Wide", name := "addOrSubtract", desc := "(LHouseFunctions$Wide;Z)V" } : Jvm.MethodName) prog_4_method_9_code (3 : Nat) (Option.none : Option Jvm.ClassFile.FieldType)) ∈ al_W := List.mem_of_getElem? (i := 27) rfl
theorem wm_W_28 : (Jvm.Cond.methodLink "HouseFunctions$Wide" (31 : Nat) ({ cls := "HouseFunctions$Wide", name := "subtract", desc := "(LHouseFunctions$Wide;)V" } : Jvm.MethodName)) ∈ al_W := List.mem_of_getElem? (i := 28) rfl
theorem wm_W_29 : (Jvm.Cond.instanceMethod ({ cls := "HouseFunctions$Wide", name := "subtract", desc := "(LHouseFunctions$Wide;)V" } : Jvm.MethodName)) ∈ al_W := List.mem_of_getElem? (i := 29) rfl
theorem wm_W_30 : (Jvm.Cond.selects "HouseFunctions$Wide" ({ cls := "HouseFunctions$Wide", name := "subtract", desc := "(LHouseFunctions$Wide;)V" } : Jvm.MethodName) ({ cls := "HouseFunctions$Wide", name := "subtract", desc := "(LHouseFunctions$Wide;)V" } : Jvm.MethodName)) ∈ al_W := List.mem_of_getElem? (i := 30) rfl
theorem wm_W_31 : (Jvm.Cond.code ({ cls := "HouseFunctions$Wide", name := "subtract", desc := "(LHouseFunctions$Wide;)V" } : Jvm.MethodName) prog_4_method_8_code (7 : Nat) (Option.none : Option Jvm.ClassFile.FieldType)) ∈ al_W := List.mem_of_getElem? (i := 31) rfl
theorem wm_W_32 : (Jvm.Cond.methodLink "HouseFunctions$Wide" (35 : Nat) ({ cls := "HouseFunctions$Wide", name := "add", desc := "(LHouseFunctions$Wide;)V" } : Jvm.MethodName)) ∈ al_W := List.mem_of_getElem? (i := 32) rfl
theorem wm_W_33 : (Jvm.Cond.instanceMethod ({ cls := "HouseFunctions$Wide", name := "add", desc := "(LHouseFunctions$Wide;)V" } : Jvm.MethodName)) ∈ al_W := List.mem_of_getElem? (i := 33) rfl
theorem wm_W_34 : (Jvm.Cond.selects "HouseFunctions$Wide" ({ cls := "HouseFunctions$Wide", name := "add", desc := "(LHouseFunctions$Wide;)V" } : Jvm.MethodName) ({ cls := "HouseFunctions$Wide", name := "add", desc := "(LHouseFunctions$Wide;)V" } : Jvm.MethodName)) ∈ al_W := List.mem_of_getElem? (i := 34) rfl
theorem wm_W_35 : (Jvm.Cond.code ({ cls := "HouseFunctions$Wide", name := "add", desc := "(LHouseFunctions$Wide;)V" } : Jvm.MethodName) prog_4_method_7_code (7 : Nat) (Option.none : Option Jvm.ClassFile.FieldType)) ∈ al_W := List.mem_of_getElem? (i := 35) rfl
theorem wm_W_36 : (Jvm.Cond.instanceMethod ({ cls := "HouseFunctions$Wide", name := "multiply", desc := "(LHouseFunctions$Wide;)V" } : Jvm.MethodName)) ∈ al_W := List.mem_of_getElem? (i := 36) rfl
theorem wm_W_37 : (Jvm.Cond.selects "HouseFunctions$Wide" ({ cls := "HouseFunctions$Wide", name := "multiply", desc := "(LHouseFunctions$Wide;)V" } : Jvm.MethodName) ({ cls := "HouseFunctions$Wide", name := "multiply", desc := "(LHouseFunctions$Wide;)V" } : Jvm.MethodName)) ∈ al_W := List.mem_of_getElem? (i := 37) rfl
theorem wm_W_38 : (Jvm.Cond.code ({ cls := "HouseFunctions$Wide", name := "multiply", desc := "(LHouseFunctions$Wide;)V" } : Jvm.MethodName) prog_4_method_13_code (2 : Nat) (Option.none : Option Jvm.ClassFile.FieldType)) ∈ al_W := List.mem_of_getElem? (i := 38) rfl
theorem wm_W_39 : (Jvm.Cond.methodLink "HouseFunctions$Wide" (42 : Nat) ({ cls := "HouseFunctions$Wide", name := "multiplyAndDrop", desc := "(LHouseFunctions$Wide;I)V" } : Jvm.MethodName)) ∈ al_W := List.mem_of_getElem? (i := 39) rfl
theorem wm_W_40 : (Jvm.Cond.instanceMethod ({ cls := "HouseFunctions$Wide", name := "multiplyAndDrop", desc := "(LHouseFunctions$Wide;I)V" } : Jvm.MethodName)) ∈ al_W := List.mem_of_getElem? (i := 40) rfl
theorem wm_W_41 : (Jvm.Cond.code ({ cls := "HouseFunctions$Wide", name := "multiplyAndDrop", desc := "(LHouseFunctions$Wide;I)V" } : Jvm.MethodName) prog_4_method_15_code (11 : Nat) (Option.none : Option Jvm.ClassFile.FieldType)) ∈ al_W := List.mem_of_getElem? (i := 41) rfl
theorem wm_W_42 : (Jvm.Cond.methodLink "HouseFunctions$Wide" (46 : Nat) ({ cls := "java/lang/Math", name := "max", desc := "(II)I" } : Jvm.MethodName)) ∈ al_W := List.mem_of_getElem? (i := 42) rfl
theorem wm_W_43 : (Jvm.Cond.instanceMethod ({ cls := "HouseFunctions$Wide", name := "whole", desc := "()J" } : Jvm.MethodName)) ∈ al_W := List.mem_of_getElem? (i := 43) rfl
theorem wm_W_44 : (Jvm.Cond.selects "HouseFunctions$Wide" ({ cls := "HouseFunctions$Wide", name := "whole", desc := "()J" } : Jvm.MethodName) ({ cls := "HouseFunctions$Wide", name := "whole", desc := "()J" } : Jvm.MethodName)) ∈ al_W := List.mem_of_getElem? (i := 44) rfl
theorem wm_W_45 : (Jvm.Cond.code ({ cls := "HouseFunctions$Wide", name := "whole", desc := "()J" } : Jvm.MethodName) prog_4_method_19_code (1 : Nat) (Option.some Jvm.ClassFile.FieldType.long)) ∈ al_W := List.mem_of_getElem? (i := 45) rfl
theorem wm_W_46 : (Jvm.Cond.instanceMethod ({ cls := "HouseFunctions$Wide", name := "loadRatio", desc := "(JJ)V" } : Jvm.MethodName)) ∈ al_W := List.mem_of_getElem? (i := 46) rfl
theorem wm_W_47 : (Jvm.Cond.selects "HouseFunctions$Wide" ({ cls := "HouseFunctions$Wide", name := "loadRatio", desc := "(JJ)V" } : Jvm.MethodName) ({ cls := "HouseFunctions$Wide", name := "loadRatio", desc := "(JJ)V" } : Jvm.MethodName)) ∈ al_W := List.mem_of_getElem? (i := 47) rfl
theorem wm_W_48 : (Jvm.Cond.code ({ cls := "HouseFunctions$Wide", name := "loadRatio", desc := "(JJ)V" } : Jvm.MethodName) prog_4_method_4_code (5 : Nat) (Option.none : Option Jvm.ClassFile.FieldType)) ∈ al_W := List.mem_of_getElem? (i := 48) rfl
theorem wm_W_49 : (Jvm.Cond.methodLink "HouseFunctions$Wide" (24 : Nat) ({ cls := "HouseFunctions$Wide", name := "load", desc := "(J)V" } : Jvm.MethodName)) ∈ al_W := List.mem_of_getElem? (i := 49) rfl
theorem wm_W_50 : (Jvm.Cond.methodLink "HouseFunctions$Wide" (28 : Nat) ({ cls := "HouseFunctions$Wide", name := "divide", desc := "(J)V" } : Jvm.MethodName)) ∈ al_W := List.mem_of_getElem? (i := 50) rfl
theorem wm_W_51 : (Jvm.Cond.instanceMethod ({ cls := "HouseFunctions$Wide", name := "loadWide", desc := "(LHouseFunctions$Wide;)V" } : Jvm.MethodName)) ∈ al_W := List.mem_of_getElem? (i := 51) rfl
theorem wm_W_52 : (Jvm.Cond.selects "HouseFunctions$Wide" ({ cls := "HouseFunctions$Wide", name := "loadWide", desc := "(LHouseFunctions$Wide;)V" } : Jvm.MethodName) ({ cls := "HouseFunctions$Wide", name := "loadWide", desc := "(LHouseFunctions$Wide;)V" } : Jvm.MethodName)) ∈ al_W := List.mem_of_getElem? (i := 52) rfl
theorem wm_W_53 : (Jvm.Cond.code ({ cls := "HouseFunctions$Wide", name := "loadWide", desc := "(LHouseFunctions$Wide;)V" } : Jvm.MethodName) prog_4_method_5_code (3 : Nat) (Option.none : Option Jvm.ClassFile.FieldType)) ∈ al_W := List.mem_of_getElem? (i := 53) rfl
theorem wm_W_54 : (Jvm.Cond.instanceMethod ({ cls := "HouseFunctions$Wide", name := "negate", desc := "()V" } : Jvm.MethodName)) ∈ al_W := List.mem_of_getElem? (i := 54) rfl
theorem wm_W_55 : (Jvm.Cond.selects "HouseFunctions$Wide" ({ cls := "HouseFunctions$Wide", name := "negate", desc := "()V" } : Jvm.MethodName) ({ cls := "HouseFunctions$Wide", name := "negate", desc := "()V" } : Jvm.MethodName)) ∈ al_W := List.mem_of_getElem? (i := 55) rfl
theorem wm_W_56 : (Jvm.Cond.code ({ cls := "HouseFunctions$Wide", name := "negate", desc := "()V" } : Jvm.MethodName) prog_4_method_10_code (6 : Nat) (Option.none : Option Jvm.ClassFile.FieldType)) ∈ al_W := List.mem_of_getElem? (i := 56) rfl
theorem wm_W_57 : (Jvm.Cond.instanceMethod ({ cls := "HouseFunctions$Wide", name := "loadLimbs", desc := "([JI)V" } : Jvm.MethodName)) ∈ al_W := List.mem_of_getElem? (i := 57) rfl
theorem wm_W_58 : (Jvm.Cond.selects "HouseFunctions$Wide" ({ cls := "HouseFunctions$Wide", name := "loadLimbs", desc := "([JI)V" } : Jvm.MethodName) ({ cls := "HouseFunctions$Wide", name := "loadLimbs", desc := "([JI)V" } : Jvm.MethodName)) ∈ al_W := List.mem_of_getElem? (i := 58) rfl
theorem wm_W_59 : (Jvm.Cond.code ({ cls := "HouseFunctions$Wide", name := "loadLimbs", desc := "([JI)V" } : Jvm.MethodName) prog_4_method_6_code (5 : Nat) (Option.none : Option Jvm.ClassFile.FieldType)) ∈ al_W := List.mem_of_getElem? (i := 59) rfl
theorem wm_W_60 : (Jvm.Cond.instanceMethod ({ cls := "HouseFunctions$Wide", name := "loadInteger", desc := "(J)V" } : Jvm.MethodName)) ∈ al_W := List.mem_of_getElem? (i := 60) rfl
theorem wm_W_61 : (Jvm.Cond.selects "HouseFunctions$Wide" ({ cls := "HouseFunctions$Wide", name := "loadInteger", desc := "(J)V" } : Jvm.MethodName) ({ cls := "HouseFunctions$Wide", name := "loadInteger", desc := "(J)V" } : Jvm.MethodName)) ∈ al_W := List.mem_of_getElem? (i := 61) rfl
theorem wm_W_62 : (Jvm.Cond.code ({ cls := "HouseFunctions$Wide", name := "loadInteger", desc := "(J)V" } : Jvm.MethodName) prog_4_method_3_code (3 : Nat) (Option.none : Option Jvm.ClassFile.FieldType)) ∈ al_W := List.mem_of_getElem? (i := 62) rfl
theorem wm_W_63 : (Jvm.Cond.instanceMethod ({ cls := "HouseFunctions$Wide", name := "multiplyInteger", desc := "(LHouseFunctions$Wide;)V" } : Jvm.MethodName)) ∈ al_W := List.mem_of_getElem? (i := 63) rfl
theorem wm_W_64 : (Jvm.Cond.selects "HouseFunctions$Wide" ({ cls := "HouseFunctions$Wide", name := "multiplyInteger", desc := "(LHouseFunctions$Wide;)V" } : Jvm.MethodName) ({ cls := "HouseFunctions$Wide", name := "multiplyInteger", desc := "(LHouseFunctions$Wide;)V" } : Jvm.MethodName)) ∈ al_W := List.mem_of_getElem? (i := 64) rfl
theorem wm_W_65 : (Jvm.Cond.code ({ cls := "HouseFunctions$Wide", name := "multiplyInteger", desc := "(LHouseFunctions$Wide;)V" } : Jvm.MethodName) prog_4_method_14_code (2 : Nat) (Option.none : Option Jvm.ClassFile.FieldType)) ∈ al_W := List.mem_of_getElem? (i := 65) rfl
theorem wm_W_66 : (Jvm.Cond.instanceMethod ({ cls := "HouseFunctions$Wide", name := "isAbove", desc := "(LHouseFunctions$Wide;)Z" } : Jvm.MethodName)) ∈ al_W := List.mem_of_getElem? (i := 66) rfl
theorem wm_W_67 : (Jvm.Cond.selects "HouseFunctions$Wide" ({ cls := "HouseFunctions$Wide", name := "isAbove", desc := "(LHouseFunctions$Wide;)Z" } : Jvm.MethodName) ({ cls := "HouseFunctions$Wide", name := "isAbove", desc := "(LHouseFunctions$Wide;)Z" } : Jvm.MethodName)) ∈ al_W := List.mem_of_getElem? (i := 67) rfl
theorem wm_W_68 : (Jvm.Cond.code ({ cls := "HouseFunctions$Wide", name := "isAbove", desc := "(LHouseFunctions$Wide;)Z" } : Jvm.MethodName) prog_4_method_18_code (3 : Nat) (Option.some Jvm.ClassFile.FieldType.boolean)) ∈ al_W := List.mem_of_getElem? (i := 68) rfl
theorem wm_W_69 : (Jvm.Cond.instanceMethod ({ cls := "HouseFunctions$Wide", name := "isNegative", desc := "()Z" } : Jvm.MethodName)) ∈ al_W := List.mem_of_getElem? (i := 69) rfl
theorem wm_W_70 : (Jvm.Cond.selects "HouseFunctions$Wide" ({ cls := "HouseFunctions$Wide", name := "isNegative", desc := "()Z" } : Jvm.MethodName) ({ cls := "HouseFunctions$Wide", name := "isNegative", desc := "()Z" } : Jvm.MethodName)) ∈ al_W := List.mem_of_getElem? (i := 70) rfl
theorem wm_W_71 : (Jvm.Cond.code ({ cls := "HouseFunctions$Wide", name := "isNegative", desc := "()Z" } : Jvm.MethodName) prog_4_method_17_code (1 : Nat) (Option.some Jvm.ClassFile.FieldType.boolean)) ∈ al_W := List.mem_of_getElem? (i := 71) rfl
theorem wm_W_72 : (Jvm.Cond.constantLong "HouseFunctions$Wide" (52 : Nat) (2147483648 : Int64)) ∈ al_W := List.mem_of_getElem? (i := 72) rfl
theorem wm_W_73 : (Jvm.Cond.selects "HouseFunctions$Wide" ({ cls := "HouseFunctions$Wide", name := "multiplyAndDrop", desc := "(LHouseFunctions$Wide;I)V" } : Jvm.MethodName) ({ cls := "HouseFunctions$Wide", name := "multiplyAndDrop", desc := "(LHouseFunctions$Wide;I)V" } : Jvm.MethodName)) ∈ al_W := List.mem_of_getElem? (i := 73) rfl
theorem wm_W_74 : (Jvm.Cond.instanceMethod ({ cls := "java/lang/Object", name := "<init>", desc := "()V" } : Jvm.MethodName)) ∈ al_W := List.mem_of_getElem? (i := 74) rfl
theorem wm_W_75 : (Jvm.Cond.code ({ cls := "java/lang/Object", name := "<init>", desc := "()V" } : Jvm.MethodName) object_method_1_code (1 : Nat) (Option.none : Option Jvm.ClassFile.FieldType)) ∈ al_W := List.mem_of_getElem? (i := 75) rfl
theorem wm_W_76 : (Jvm.Cond.initialized "java/util/Arrays") ∈ al_W := List.mem_of_getElem? (i := 76) rfl
theorem wm_W_77 : (Jvm.Cond.static ({ cls := "java/util/Arrays", name := "fill", desc := "([JJ)V" } : Jvm.MethodName)) ∈ al_W := List.mem_of_getElem? (i := 77) rfl
theorem wm_W_78 : (Jvm.Cond.code ({ cls := "java/util/Arrays", name := "fill", desc := "([JJ)V" } : Jvm.MethodName) prog_14_method_101_code (5 : Nat) (Option.none : Option Jvm.ClassFile.FieldType)) ∈ al_W := List.mem_of_getElem? (i := 78) rfl
theorem wm_W_79 : (Jvm.Cond.initialized "java/lang/Math") ∈ al_W := List.mem_of_getElem? (i := 79) rfl
theorem wm_W_80 : (Jvm.Cond.static ({ cls := "java/lang/Math", name := "max", desc := "(II)I" } : Jvm.MethodName)) ∈ al_W := List.mem_of_getElem? (i := 80) rfl
theorem wm_W_81 : (Jvm.Cond.code ({ cls := "java/lang/Math", name := "max", desc := "(II)I" } : Jvm.MethodName) prog_10_method_65_code (2 : Nat) (Option.some Jvm.ClassFile.FieldType.int)) ∈ al_W := List.mem_of_getElem? (i := 81) rfl
theorem wm_W_82 : (Jvm.Cond.arrayClass Jvm.ClassFile.FieldType.long) ∈ al_W := List.mem_of_getElem? (i := 82) rfl
def al_K : List Jvm.Cond := [(Jvm.Cond.initialized "HouseFunctions$Reckoner"),
  (Jvm.Cond.instantiable "HouseFunctions$Reckoner" (5 : Nat)),
  (Jvm.Cond.instanceMethod ({ cls := "HouseFunctions$Reckoner", name := "<init>", desc := "()V" } : Jvm.MethodName)),
  (Jvm.Cond.code ({ cls := "HouseFunctions$Reckoner", name := "<init>", desc := "()V" } : Jvm.MethodName) prog_2_method_1_code (1 : Nat) (Option.none : Option Jvm.ClassFile.FieldType)),
  (Jvm.Cond.methodLink "HouseFunctions$Reckoner" (3 : Nat) ({ cls := "java/lang/Object", name := "<init>", desc := "()V" } : Jvm.MethodName)),
  (Jvm.Cond.classLink "HouseFunctions$Reckoner" (9 : Nat) "HouseFunctions$Wide"),
  (Jvm.Cond.fieldLink "HouseFunctions$Reckoner" (12 : Nat) "HouseFunctions$Reckoner" "value" "LHouseFunctions$Wide;"),
  (Jvm.Cond.fieldLink "HouseFunctions$Reckoner" (18 : Nat) "HouseFunctions$Reckoner" "term" "LHouseFunctions$Wide;"),
  (Jvm.Cond.fieldLink "HouseFunctions$Reckoner" (21 : Nat) "HouseFunctions$Reckoner" "factor" "LHouseFunctions$Wide;"),
  (Jvm.Cond.fieldLink "HouseFunctions$Reckoner" (24 : Nat) "HouseFunctions$Reckoner" "part" "LHouseFunctions$Wide;"),
  (Jvm.Cond.fieldLink "HouseFunctions$Reckoner" (27 : Nat) "HouseFunctions$Reckoner" "kept" "LHouseFunctions$Wide;"),
  (Jvm.Cond.laysFinal "HouseFunctions$Reckoner" "HouseFunctions$Reckoner" "value" "LHouseFunctions$Wide;"),
  (Jvm.Cond.laysFinal "HouseFunctions$Reckoner" "HouseFunctions$Reckoner" "term" "LHouseFunctions$Wide;"),
  (Jvm.Cond.laysFinal "HouseFunctions$Reckoner" "HouseFunctions$Reckoner" "factor" "LHouseFunctions$Wide;"),
  (Jvm.Cond.laysFinal "HouseFunctions$Reckoner" "HouseFunctions$Reckoner" "part" "LHouseFunctions$Wide;"),
  (Jvm.Cond.laysFinal "HouseFunctions$Reckoner" "HouseFunctions$Reckoner" "kept" "LHouseFunctions$Wide;"),
  (Jvm.Cond.instanceMethod ({ cls := "HouseFunctions$Reckoner", name := "raiseE", desc := "(JJ)V" } : Jvm.MethodName)),
  (Jvm.Cond.selects "HouseFunctions$Reckoner" ({ cls := "HouseFunctions$Reckoner", name := "raiseE", desc := "(JJ)V" } : Jvm.MethodName) ({ cls := "HouseFunctions$Reckoner", name := "raiseE", desc := "(JJ)V" } : Jvm.MethodName)),
  (Jvm.Cond.code ({ cls := "HouseFunctions$Reckoner", name := "raiseE", desc := "(JJ)V" } : Jvm.MethodName) prog_2_method_3_code (10 : Nat) (Option.none : Option Jvm.ClassFile.FieldType)),
  (Jvm.Cond.methodLink "HouseFunctions$Reckoner" (38 : Nat) ({ cls := "java/lang/Math", name := "abs", desc := "(J)J" } : Jvm.MethodName)),
  (Jvm.Cond.methodLink "HouseFunctions$Reckoner" (44 : Nat) ({ cls := "HouseFunctions$Wide", name := "load", desc := "(J)V" } : Jvm.MethodName)),
  (Jvm.Cond.methodLink "HouseFunctions$Reckoner" (47 : Nat) ({ cls := "HouseFunctions$Wide", name := "isZero", desc := "()Z" } : Jvm.MethodName)),
  (Jvm.Cond.methodLink "HouseFunctions$Reckoner" (30 : Nat) ({ cls := "HouseFunctions$Wide", name := "scale", desc := "(J)V" } : Jvm.MethodName)),
  (Jvm.Cond.methodLink "HouseFunctions$Reckoner" (51 : Nat) ({ cls := "HouseFunctions$Wide", name := "divide", desc := "(J)V" } : Jvm.MethodName)),
  (Jvm.Cond.methodLink "HouseFunctions$Reckoner" (54 : Nat) ({ cls := "HouseFunctions$Wide", name := "addOrSubtract", desc := "(LHouseFunctions$Wide;Z)V" } : Jvm.MethodName)),
  (Jvm.Cond.methodLink "HouseFunctions$Reckoner" (58 : Nat) ({ cls := "HouseFunctions$Wide", name := "multiply", desc := "(LHouseFunctions$Wide;)V" } : Jvm.MethodName)),
  (Jvm.Cond.instanceMethod ({ cls := "HouseFunctions$Reckoner", name := "floorTimes", desc := "(J)J" } : Jvm.MethodName)),
  (Jvm.Cond.selects "HouseFunctions$Reckoner" ({ cls := "HouseFunctions$Reckoner", name := "floorTimes", desc := "(J)J" } : Jvm.MethodName) ({ cls := "HouseFunctions$Reckoner", name := "floorTimes", desc := "(J)J" } : Jvm.MethodName)),
  (Jvm.Cond.code ({ cls := "HouseFunctions$Reckoner", name := "floorTimes", desc := "(J)J" } : Jvm.MethodName) prog_2_method_2_code (3 : Nat) (Option.some Jvm.ClassFile.FieldType.long)),
  (Jvm.Cond.methodLink "HouseFunctions$Reckoner" (34 : Nat) ({ cls := "HouseFunctions$Wide", name := "whole", desc := "()J" } : Jvm.MethodName)),
  (Jvm.Cond.instanceMethod ({ cls := "HouseFunctions$Reckoner", name := "takeLog", desc := "(JJ)V" } : Jvm.MethodName)),
  (Jvm.Cond.selects "HouseFunctions$Reckoner" ({ cls := "HouseFunctions$Reckoner", name := "takeLog", desc := "(JJ)V" } : Jvm.MethodName) ({ cls := "HouseFunctions$Reckoner", name := "takeLog", desc := "(JJ)V" } : Jvm.MethodName)),
  (Jvm.Cond.code ({ cls := "HouseFunctions$Reckoner", name := "takeLog", desc := "(JJ)V" } : Jvm.MethodName) prog_2_method_4_code (11 : Nat) (Option.none : Option Jvm.ClassFile.FieldType)),
  (Jvm.Cond.constantLong "HouseFunctions$Reckoner" (62 : Nat) (5 : Int64)),
  (Jvm.Cond.constantLong "HouseFunctions$Reckoner" (64 : Nat) (7 : Int64)),
  (Jvm.Cond.constantLong "HouseFunctions$Reckoner" (66 : Nat) (2 : Int64)),
  (Jvm.Cond.constantLong "HouseFunctions$Reckoner" (68 : Nat) (10 : Int64)),
  (Jvm.Cond.methodLink "HouseFunctions$Reckoner" (70 : Nat) ({ cls := "HouseFunctions$Wide", name := "loadRatio", desc := "(JJ)V" } : Jvm.MethodName)),
  (Jvm.Cond.methodLink "HouseFunctions$Reckoner" (74 : Nat) ({ cls := "HouseFunctions$Reckoner", name := "sumOddPowers", desc := "(Z)V" } : Jvm.MethodName)),
  (Jvm.Cond.instanceMethod ({ cls := "HouseFunctions$Reckoner", name := "sumOddPowers", desc := "(Z)V" } : Jvm.MethodName)),
  (Jvm.Cond.code ({ cls := "HouseFunctions$Reckoner", name := "sumOddPowers", desc := "(Z)V" } : Jvm.MethodName) prog_2_method_12_code (3 : Nat) (Option.none : Option Jvm.ClassFile.FieldType)),
  (Jvm.Cond.methodLink "HouseFunctions$Reckoner" (104 : Nat) ({ cls := "HouseFunctions$Wide", name := "loadWide", desc := "(LHouseFunctions$Wide;)V" } : Jvm.MethodName)),
  (Jvm.Cond.methodLink "HouseFunctions$Reckoner" (78 : Nat) ({ cls := "HouseFunctions$Wide", name := "negate", desc := "()V" } : Jvm.MethodName)),
  (Jvm.Cond.fieldLink "HouseFunctions$Reckoner" (81 : Nat) "HouseFunctions$Reckoner" "LOG_OF_TWO" "[J"),
  (Jvm.Cond.methodLink "HouseFunctions$Reckoner" (85 : Nat) ({ cls := "HouseFunctions$Wide", name := "loadLimbs", desc := "([JI)V" } : Jvm.MethodName)),
  (Jvm.Cond.methodLink "HouseFunctions$Reckoner" (89 : Nat) ({ cls := "java/lang/Math", name := "abs", desc := "(I)I" } : Jvm.MethodName)),
  (Jvm.Cond.instanceMethod ({ cls := "HouseFunctions$Reckoner", name := "swing", desc := "(JI)V" } : Jvm.MethodName)),
  (Jvm.Cond.selects "HouseFunctions$Reckoner" ({ cls := "HouseFunctions$Reckoner", name := "swing", desc := "(JI)V" } : Jvm.MethodName) ({ cls := "HouseFunctions$Reckoner", name := "swing", desc := "(JI)V" } : Jvm.MethodName)),
  (Jvm.Cond.code ({ cls := "HouseFunctions$Reckoner", name := "swing", desc := "(JI)V" } : Jvm.MethodName) prog_2_method_5_code (8 : Nat) (Option.none : Option Jvm.ClassFile.FieldType)),
  (Jvm.Cond.constantLong "HouseFunctions$Reckoner" (92 : Nat) (636619772 : Int64)),
  (Jvm.Cond.constantLong "HouseFunctions$Reckoner" (94 : Nat) (1000000000000000 : Int64)),
  (Jvm.Cond.constantLong "HouseFunctions$Reckoner" (96 : Nat) (1000000 : Int64)),
  (Jvm.Cond.fieldLink "HouseFunctions$Reckoner" (98 : Nat) "HouseFunctions$Reckoner" "HALF_PI" "[J"),
  (Jvm.Cond.methodLink "HouseFunctions$Reckoner" (101 : Nat) ({ cls := "HouseFunctions$Wide", name := "subtract", desc := "(LHouseFunctions$Wide;)V" } : Jvm.MethodName)),
  (Jvm.Cond.constantLong "HouseFunctions$Reckoner" (107 : Nat) (3 : Int64)),
  (Jvm.Cond.methodLink "HouseFunctions$Reckoner" (109 : Nat) ({ cls := "HouseFunctions$Reckoner", name := "sumFactorials", desc := "(I)V" } : Jvm.MethodName)),
  (Jvm.Cond.instanceMethod ({ cls := "HouseFunctions$Reckoner", name := "sumFactorials", desc := "(I)V" } : Jvm.MethodName)),
  (Jvm.Cond.code ({ cls := "HouseFunctions$Reckoner", name := "sumFactorials", desc := "(I)V" } : Jvm.MethodName) prog_2_method_13_code (4 : Nat) (Option.none : Option Jvm.ClassFile.FieldType)),
  (Jvm.Cond.instanceMethod ({ cls := "HouseFunctions$Reckoner", name := "pointTo", desc := "(II)V" } : Jvm.MethodName)),
  (Jvm.Cond.selects "HouseFunctions$Reckoner" ({ cls := "HouseFunctions$Reckoner", name := "pointTo", desc := "(II)V" } : Jvm.MethodName) ({ cls := "HouseFunctions$Reckoner", name := "pointTo", desc := "(II)V" } : Jvm.MethodName)),
  (Jvm.Cond.code ({ cls := "HouseFunctions$Reckoner", name := "pointTo", desc := "(II)V" } : Jvm.MethodName) prog_2_method_6_code (7 : Nat) (Option.none : Option Jvm.ClassFile.FieldType)),
  (Jvm.Cond.methodLink "HouseFunctions$Reckoner" (113 : Nat) ({ cls := "java/lang/Math", name := "min", desc := "(JJ)J" } : Jvm.MethodName)),
  (Jvm.Cond.methodLink "HouseFunctions$Reckoner" (117 : Nat) ({ cls := "java/lang/Math", name := "max", desc := "(JJ)J" } : Jvm.MethodName)),
  (Jvm.Cond.methodLink "HouseFunctions$Reckoner" (120 : Nat) ({ cls := "HouseFunctions$Reckoner", name := "setFlatAngle", desc := "(JJ)V" } : Jvm.MethodName)),
  (Jvm.Cond.instanceMethod ({ cls := "HouseFunctions$Reckoner", name := "setFlatAngle", desc := "(JJ)V" } : Jvm.MethodName)),
  (Jvm.Cond.code ({ cls := "HouseFunctions$Reckoner", name := "setFlatAngle", desc := "(JJ)V" } : Jvm.MethodName) prog_2_method_11_code (11 : Nat) (Option.none : Option Jvm.ClassFile.FieldType)),
  (Jvm.Cond.constantLong "HouseFunctions$Reckoner" (147 : Nat) (8 : Int64)),
  (Jvm.Cond.constantLong "HouseFunctions$Reckoner" (149 : Nat) (4 : Int64)),
  (Jvm.Cond.fieldLink "HouseFunctions$Reckoner" (151 : Nat) "HouseFunctions$Reckoner" "ANGLES_BY_QUARTER_TANGENT" "[J"),
  (Jvm.Cond.methodLink "HouseFunctions$Reckoner" (123 : Nat) ({ cls := "HouseFunctions$Wide", name := "add", desc := "(LHouseFunctions$Wide;)V" } : Jvm.MethodName)),
  (Jvm.Cond.instanceMethod ({ cls := "HouseFunctions$Reckoner", name := "floorOfRoot", desc := "(JI)J" } : Jvm.MethodName)),
  (Jvm.Cond.selects "HouseFunctions$Reckoner" ({ cls := "HouseFunctions$Reckoner", name := "floorOfRoot", desc := "(JI)J" } : Jvm.MethodName) ({ cls := "HouseFunctions$Reckoner", name := "floorOfRoot", desc := "(JI)J" } : Jvm.MethodName)),
  (Jvm.Cond.code ({ cls := "HouseFunctions$Reckoner", name := "floorOfRoot", desc := "(JI)J" } : Jvm.MethodName) prog_2_method_7_code (9 : Nat) (Option.some Jvm.ClassFile.FieldType.long)),
  (Jvm.Cond.methodLink "HouseFunctions$Reckoner" (126 : Nat) ({ cls := "HouseFunctions$Wide", name := "loadInteger", desc := "(J)V" } : Jvm.MethodName)),
  (Jvm.Cond.constantLong "HouseFunctions$Reckoner" (129 : Nat) (1000000000 : Int64)),
  (Jvm.Cond.constantLong "HouseFunctions$Reckoner" (131 : Nat) (1000 : Int64)),
  (Jvm.Cond.methodLink "HouseFunctions$Reckoner" (133 : Nat) ({ cls := "HouseFunctions$Reckoner", name := "isPowerWithinKept", desc := "(JI)Z" } : Jvm.MethodName)),
  (Jvm.Cond.instanceMethod ({ cls := "HouseFunctions$Reckoner", name := "isPowerWithinKept", desc := "(JI)Z" } : Jvm.MethodName)),
  (Jvm.Cond.code ({ cls := "HouseFunctions$Reckoner", name := "isPowerWithinKept", desc := "(JI)Z" } : Jvm.MethodName) prog_2_method_10_code (5 : Nat) (Option.some Jvm.ClassFile.FieldType.boolean)),
  (Jvm.Cond.methodLink "HouseFunctions$Reckoner" (140 : Nat) ({ cls := "HouseFunctions$Wide", name := "multiplyInteger", desc := "(LHouseFunctions$Wide;)V" } : Jvm.MethodName)),
  (Jvm.Cond.methodLink "HouseFunctions$Reckoner" (143 : Nat) ({ cls := "HouseFunctions$Wide", name := "isAbove", desc := "(LHouseFunctions$Wide;)Z" } : Jvm.MethodName)),
  (Jvm.Cond.instanceMethod ({ cls := "HouseFunctions$Reckoner", name := "keepLog", desc := "()V" } : Jvm.MethodName)),
  (Jvm.Cond.selects "HouseFunctions$Reckoner" ({ cls := "HouseFunctions$Reckoner", name := "keepLog", desc := "()V" } : Jvm.MethodName) ({ cls := "HouseFunctions$Reckoner", name := "keepLog", desc := "()V" } : Jvm.MethodName)),
  (Jvm.Cond.code ({ cls := "HouseFunctions$Reckoner", name := "keepLog", desc := "()V" } : Jvm.MethodName) prog_2_method_8_code (1 : Nat) (Option.none : Option Jvm.ClassFile.FieldType)),
  (Jvm.Cond.instanceMethod ({ cls := "HouseFunctions$Reckoner", name := "isRatioBelowKept", desc := "(JJ)Z" } : Jvm.MethodName)),
  (Jvm.Cond.selects "HouseFunctions$Reckoner" ({ cls := "HouseFunctions$Reckoner", name := "isRatioBelowKept", desc := "(JJ)Z" } : Jvm.MethodName) ({ cls := "HouseFunctions$Reckoner", name := "isRatioBelowKept", desc := "(JJ)Z" } : Jvm.MethodName)),
  (Jvm.Cond.code ({ cls := "HouseFunctions$Reckoner", name := "isRatioBelowKept", desc := "(JJ)Z" } : Jvm.MethodName) prog_2_method_9_code (5 : Nat) (Option.some Jvm.ClassFile.FieldType.boolean)),
  (Jvm.Cond.methodLink "HouseFunctions$Reckoner" (137 : Nat) ({ cls := "HouseFunctions$Wide", name := "isNegative", desc := "()Z" } : Jvm.MethodName)),
  (Jvm.Cond.selects "HouseFunctions$Reckoner" ({ cls := "HouseFunctions$Reckoner", name := "sumOddPowers", desc := "(Z)V" } : Jvm.MethodName) ({ cls := "HouseFunctions$Reckoner", name := "sumOddPowers", desc := "(Z)V" } : Jvm.MethodName)),
  (Jvm.Cond.selects "HouseFunctions$Reckoner" ({ cls := "HouseFunctions$Reckoner", name := "sumFactorials", desc := "(I)V" } : Jvm.MethodName) ({ cls := "HouseFunctions$Reckoner", name := "sumFactorials", desc := "(I)V" } : Jvm.MethodName)),
  (Jvm.Cond.selects "HouseFunctions$Reckoner" ({ cls := "HouseFunctions$Reckoner", name := "setFlatAngle", desc := "(JJ)V" } : Jvm.MethodName) ({ cls := "HouseFunctions$Reckoner", name := "setFlatAngle", desc := "(JJ)V" } : Jvm.MethodName)),
  (Jvm.Cond.selects "HouseFunctions$Reckoner" ({ cls := "HouseFunctions$Reckoner", name := "isPowerWithinKept", desc := "(JI)Z" } : Jvm.MethodName) ({ cls := "HouseFunctions$Reckoner", name := "isPowerWithinKept", desc := "(JI)Z" } : Jvm.MethodName)),
  (Jvm.Cond.instanceMethod ({ cls := "java/lang/Object", name := "<init>", desc := "()V" } : Jvm.MethodName)),
  (Jvm.Cond.code ({ cls := "java/lang/Object", name := "<init>", desc := "()V" } : Jvm.MethodName) object_method_1_code (1 : Nat) (Option.none : Option Jvm.ClassFile.FieldType)),
  (Jvm.Cond.initialized "java/lang/Math"),
  (Jvm.Cond.static ({ cls := "java/lang/Math", name := "abs", desc := "(J)J" } : Jvm.MethodName)),
  (Jvm.Cond.code ({ cls := "java/lang/Math", name := "abs", desc := "(J)J" } : Jvm.MethodName) prog_10_method_61_code (2 : Nat) (Option.some Jvm.ClassFile.FieldType.long)),
  (Jvm.Cond.static ({ cls := "java/lang/Math", name := "abs", desc := "(I)I" } : Jvm.MethodName)),
  (Jvm.Cond.code ({ cls := "java/lang/Math", name := "abs", desc := "(I)I" } : Jvm.MethodName) prog_10_method_59_code (1 : Nat) (Option.some Jvm.ClassFile.FieldType.int)),
  (Jvm.Cond.static ({ cls := "java/lang/Math", name := "min", desc := "(JJ)J" } : Jvm.MethodName)),
  (Jvm.Cond.code ({ cls := "java/lang/Math", name := "min", desc := "(JJ)J" } : Jvm.MethodName) prog_10_method_70_code (4 : Nat) (Option.some Jvm.ClassFile.FieldType.long)),
  (Jvm.Cond.static ({ cls := "java/lang/Math", name := "max", desc := "(JJ)J" } : Jvm.MethodName)),
  (Jvm.Cond.code ({ cls := "java/lang/Math", name := "max", desc := "(JJ)J" } : Jvm.MethodName) prog_10_method_66_code (4 : Nat) (Option.some Jvm.ClassFile.FieldType.long))] ++ al_W
set_option maxRecDepth 20000 in
theorem ag_K : al_K.all goodWord = true := by decide +kernel
set_option maxRecDepth 20000 in
theorem ui_K : ∀ w ∈ u_ws R_K F_K 5, w ∈ al_K := by decide +kernel
theorem sb_K_W : ∀ w ∈ al_W, w ∈ al_K := fun w h => List.mem_append_right _ h
theorem sb_K_K : ∀ w ∈ al_K, w ∈ al_K := fun _ h => h
theorem wm_K_0 : (Jvm.Cond.initialized "HouseFunctions$Reckoner") ∈ al_K := List.mem_of_getElem? (i := 0) rfl
theorem wm_K_1 : (Jvm.Cond.instantiable "HouseFunctions$Reckoner" (5 : Nat)) ∈ al_K := List.mem_of_getElem? (i := 1) rfl
theorem wm_K_2 : (Jvm.Cond.instanceMethod ({ cls := "HouseFunctions$Reckoner", name := "<init>", desc := "()V" } : Jvm.MethodName)) ∈ al_K := List.mem_of_getElem? (i := 2) rfl
theorem wm_K_3 : (Jvm.Cond.code ({ cls := "HouseFunctions$Reckoner", name := "<init>", desc := "()V" } : Jvm.MethodName) prog_2_method_1_code (1 : Nat) (Option.none : Option Jvm.ClassFile.FieldType)) ∈ al_K := List.mem_of_getElem? (i := 3) rfl
theorem wm_K_4 : (Jvm.Cond.methodLink "HouseFunctions$Reckoner" (3 : Nat) ({ cls := "java/lang/Object", name := "<init>", desc := "()V" } : Jvm.MethodName)) ∈ al_K := List.mem_of_getElem? (i := 4) rfl
theorem wm_K_5 : (Jvm.Cond.classLink "HouseFunctions$Reckoner" (9 : Nat) "HouseFunctions$Wide") ∈ al_K := List.mem_of_getElem? (i := 5) rfl
theorem wm_K_6 : (Jvm.Cond.fieldLink "HouseFunctions$Reckoner" (12 : Nat) "HouseFunctions$Reckoner" "value" "LHouseFunctions$Wide;") ∈ al_K := List.mem_of_getElem? (i := 6) rfl
theorem wm_K_7 : (Jvm.Cond.fieldLink "HouseFunctions$Reckoner" (18 : Nat) "HouseFunctions$Reckoner" "term" "LHouseFunctions$Wide;") ∈ al_K := List.mem_of_getElem? (i := 7) rfl
theorem wm_K_8 : (Jvm.Cond.fieldLink "HouseFunctions$Reckoner" (21 : Nat) "HouseFunctions$Reckoner" "factor" "LHouseFunctions$Wide;") ∈ al_K := List.mem_of_getElem? (i := 8) rfl
theorem wm_K_9 : (Jvm.Cond.fieldLink "HouseFunctions$Reckoner" (24 : Nat) "HouseFunctions$Reckoner" "part" "LHouseFunctions$Wide;") ∈ al_K := List.mem_of_getElem? (i := 9) rfl
theorem wm_K_10 : (Jvm.Cond.fieldLink "HouseFunctions$Reckoner" (27 : Nat) "HouseFunctions$Reckoner" "kept" "LHouseFunctions$Wide;") ∈ al_K := List.mem_of_getElem? (i := 10) rfl
theorem wm_K_11 : (Jvm.Cond.laysFinal "HouseFunctions$Reckoner" "HouseFunctions$Reckoner" "value" "LHouseFunctions$Wide;") ∈ al_K := List.mem_of_getElem? (i := 11) rfl
theorem wm_K_12 : (Jvm.Cond.laysFinal "HouseFunctions$Reckoner" "HouseFunctions$Reckoner" "term" "LHouseFunctions$Wide;") ∈ al_K := List.mem_of_getElem? (i := 12) rfl
theorem wm_K_13 : (Jvm.Cond.laysFinal "HouseFunctions$Reckoner" "HouseFunctions$Reckoner" "factor" "LHouseFunctions$Wide;") ∈ al_K := List.mem_of_getElem? (i := 13) rfl
theorem wm_K_14 : (Jvm.Cond.laysFinal "HouseFunctions$Reckoner" "HouseFunctions$Reckoner" "part" "LHouseFunctions$Wide;") ∈ al_K := List.mem_of_getElem? (i := 14) rfl
theorem wm_K_15 : (Jvm.Cond.laysFinal "HouseFunctions$Reckoner" "HouseFunctions$Reckoner" "kept" "LHouseFunctions$Wide;") ∈ al_K := List.mem_of_getElem? (i := 15) rfl
theorem wm_K_16 : (Jvm.Cond.instanceMethod ({ cls := "HouseFunctions$Reckoner", name := "raiseE", desc := "(JJ)V" } : Jvm.MethodName)) ∈ al_K := List.mem_of_getElem? (i := 16) rfl
theorem wm_K_17 : (Jvm.Cond.selects "HouseFunctions$Reckoner" ({ cls := "HouseFunctions$Reckoner", name := "raiseE", desc := "(JJ)V" } : Jvm.MethodName) ({ cls := "HouseFunctions$Reckoner", name := "raiseE", desc := "(JJ)V" } : Jvm.MethodName)) ∈ al_K := List.mem_of_getElem? (i := 17) rfl
theorem wm_K_18 : (Jvm.Cond.code ({ cls := "HouseFunctions$Reckoner", name := "raiseE", desc := "(JJ)V" } : Jvm.MethodName) prog_2_method_3_code (10 : Nat) (Option.none : Option Jvm.ClassFile.FieldType)) ∈ al_K := List.mem_of_getElem? (i := 18) rfl
theorem wm_K_19 : (Jvm.Cond.methodLink "HouseFunctions$Reckoner" (38 : Nat) ({ cls := "java/lang/Math", name := "abs", desc := "(J)J" } : Jvm.MethodName)) ∈ al_K := List.mem_of_getElem? (i := 19) rfl
theorem wm_K_20 : (Jvm.Cond.methodLink "HouseFunctions$Reckoner" (44 : Nat) ({ cls := "HouseFunctions$Wide", name := "load", desc := "(J)V" } : Jvm.MethodName)) ∈ al_K := List.mem_of_getElem? (i := 20) rfl
theorem wm_K_21 : (Jvm.Cond.methodLink "HouseFunctions$Reckoner" (47 : Nat) ({ cls := "HouseFunctions$Wide", name := "isZero", desc := "()Z" } : Jvm.MethodName)) ∈ al_K := List.mem_of_getElem? (i := 21) rfl
theorem wm_K_22 : (Jvm.Cond.methodLink "HouseFunctions$Reckoner" (30 : Nat) ({ cls := "HouseFunctions$Wide", name := "scale", desc := "(J)V" } : Jvm.MethodName)) ∈ al_K := List.mem_of_getElem? (i := 22) rfl
theorem wm_K_23 : (Jvm.Cond.methodLink "HouseFunctions$Reckoner" (51 : Nat) ({ cls := "HouseFunctions$Wide", name := "divide", desc := "(J)V" } : Jvm.MethodName)) ∈ al_K := List.mem_of_getElem? (i := 23) rfl
theorem wm_K_24 : (Jvm.Cond.methodLink "HouseFunctions$Reckoner" (54 : Nat) ({ cls := "HouseFunctions$Wide", name := "addOrSubtract", desc := "(LHouseFunctions$Wide;Z)V" } : Jvm.MethodName)) ∈ al_K := List.mem_of_getElem? (i := 24) rfl
theorem wm_K_25 : (Jvm.Cond.methodLink "HouseFunctions$Reckoner" (58 : Nat) ({ cls := "HouseFunctions$Wide", name := "multiply", desc := "(LHouseFunctions$Wide;)V" } : Jvm.MethodName)) ∈ al_K := List.mem_of_getElem? (i := 25) rfl
theorem wm_K_26 : (Jvm.Cond.instanceMethod ({ cls := "HouseFunctions$Reckoner", name := "floorTimes", desc := "(J)J" } : Jvm.MethodName)) ∈ al_K := List.mem_of_getElem? (i := 26) rfl
theorem wm_K_27 : (Jvm.Cond.selects "HouseFunctions$Reckoner" ({ cls := "HouseFunctions$Reckoner", name := "floorTimes", desc := "(J)J" } : Jvm.MethodName) ({ cls := "HouseFunctions$Reckoner", name := "floorTimes", desc := "(J)J" } : Jvm.MethodName)) ∈ al_K := List.mem_of_getElem? (i := 27) rfl
theorem wm_K_28 : (Jvm.Cond.code ({ cls := "HouseFunctions$Reckoner", name := "floorTimes", desc := "(J)J" } : Jvm.MethodName) prog_2_method_2_code (3 : Nat) (Option.some Jvm.ClassFile.FieldType.long)) ∈ al_K := List.mem_of_getElem? (i := 28) rfl
theorem wm_K_29 : (Jvm.Cond.methodLink "HouseFunctions$Reckoner" (34 : Nat) ({ cls := "HouseFunctions$Wide", name := "whole", desc := "()J" } : Jvm.MethodName)) ∈ al_K := List.mem_of_getElem? (i := 29) rfl
theorem wm_K_30 : (Jvm.Cond.instanceMethod ({ cls := "HouseFunctions$Reckoner", name := "takeLog", desc := "(JJ)V" } : Jvm.MethodName)) ∈ al_K := List.mem_of_getElem? (i := 30) rfl
theorem wm_K_31 : (Jvm.Cond.selects "HouseFunctions$Reckoner" ({ cls := "HouseFunctions$Reckoner", name := "takeLog", desc := "(JJ)V" } : Jvm.MethodName) ({ cls := "HouseFunctions$Reckoner", name := "takeLog", desc := "(JJ)V" } : Jvm.MethodName)) ∈ al_K := List.mem_of_getElem? (i := 31) rfl
theorem wm_K_32 : (Jvm.Cond.code ({ cls := "HouseFunctions$Reckoner", name := "takeLog", desc := "(JJ)V" } : Jvm.MethodName) prog_2_method_4_code (11 : Nat) (Option.none : Option Jvm.ClassFile.FieldType)) ∈ al_K := List.mem_of_getElem? (i := 32) rfl
theorem wm_K_33 : (Jvm.Cond.constantLong "HouseFunctions$Reckoner" (62 : Nat) (5 : Int64)) ∈ al_K := List.mem_of_getElem? (i := 33) rfl
theorem wm_K_34 : (Jvm.Cond.constantLong "HouseFunctions$Reckoner" (64 : Nat) (7 : Int64)) ∈ al_K := List.mem_of_getElem? (i := 34) rfl
theorem wm_K_35 : (Jvm.Cond.constantLong "HouseFunctions$Reckoner" (66 : Nat) (2 : Int64)) ∈ al_K := List.mem_of_getElem? (i := 35) rfl
theorem wm_K_36 : (Jvm.Cond.constantLong "HouseFunctions$Reckoner" (68 : Nat) (10 : Int64)) ∈ al_K := List.mem_of_getElem? (i := 36) rfl
theorem wm_K_37 : (Jvm.Cond.methodLink "HouseFunctions$Reckoner" (70 : Nat) ({ cls := "HouseFunctions$Wide", name := "loadRatio", desc := "(JJ)V" } : Jvm.MethodName)) ∈ al_K := List.mem_of_getElem? (i := 37) rfl
theorem wm_K_38 : (Jvm.Cond.methodLink "HouseFunctions$Reckoner" (74 : Nat) ({ cls := "HouseFunctions$Reckoner", name := "sumOddPowers", desc := "(Z)V" } : Jvm.MethodName)) ∈ al_K := List.mem_of_getElem? (i := 38) rfl
theorem wm_K_39 : (Jvm.Cond.instanceMethod ({ cls := "HouseFunctions$Reckoner", name := "sumOddPowers", desc := "(Z)V" } : Jvm.MethodName)) ∈ al_K := List.mem_of_getElem? (i := 39) rfl
theorem wm_K_40 : (Jvm.Cond.code ({ cls := "HouseFunctions$Reckoner", name := "sumOddPowers", desc := "(Z)V" } : Jvm.MethodName) prog_2_method_12_code (3 : Nat) (Option.none : Option Jvm.ClassFile.FieldType)) ∈ al_K := List.mem_of_getElem? (i := 40) rfl
theorem wm_K_41 : (Jvm.Cond.methodLink "HouseFunctions$Reckoner" (104 : Nat) ({ cls := "HouseFunctions$Wide", name := "loadWide", desc := "(LHouseFunctions$Wide;)V" } : Jvm.MethodName)) ∈ al_K := List.mem_of_getElem? (i := 41) rfl
theorem wm_K_42 : (Jvm.Cond.methodLink "HouseFunctions$Reckoner" (78 : Nat) ({ cls := "HouseFunctions$Wide", name := "negate", desc := "()V" } : Jvm.MethodName)) ∈ al_K := List.mem_of_getElem? (i := 42) rfl
theorem wm_K_43 : (Jvm.Cond.fieldLink "HouseFunctions$Reckoner" (81 : Nat) "HouseFunctions$Reckoner" "LOG_OF_TWO" "[J") ∈ al_K := List.mem_of_getElem? (i := 43) rfl
theorem wm_K_44 : (Jvm.Cond.methodLink "HouseFunctions$Reckoner" (85 : Nat) ({ cls := "HouseFunctions$Wide", name := "loadLimbs", desc := "([JI)V" } : Jvm.MethodName)) ∈ al_K := List.mem_of_getElem? (i := 44) rfl
theorem wm_K_45 : (Jvm.Cond.methodLink "HouseFunctions$Reckoner" (89 : Nat) ({ cls := "java/lang/Math", name := "abs", desc := "(I)I" } : Jvm.MethodName)) ∈ al_K := List.mem_of_getElem? (i := 45) rfl
theorem wm_K_46 : (Jvm.Cond.instanceMethod ({ cls := "HouseFunctions$Reckoner", name := "swing", desc := "(JI)V" } : Jvm.MethodName)) ∈ al_K := List.mem_of_getElem? (i := 46) rfl
theorem wm_K_47 : (Jvm.Cond.selects "HouseFunctions$Reckoner" ({ cls := "HouseFunctions$Reckoner", name := "swing", desc := "(JI)V" } : Jvm.MethodName) ({ cls := "HouseFunctions$Reckoner", name := "swing", desc := "(JI)V" } : Jvm.MethodName)) ∈ al_K := List.mem_of_getElem? (i := 47) rfl
theorem wm_K_48 : (Jvm.Cond.code ({ cls := "HouseFunctions$Reckoner", name := "swing", desc := "(JI)V" } : Jvm.MethodName) prog_2_method_5_code (8 : Nat) (Option.none : Option Jvm.ClassFile.FieldType)) ∈ al_K := List.mem_of_getElem? (i := 48) rfl
theorem wm_K_49 : (Jvm.Cond.constantLong "HouseFunctions$Reckoner" (92 : Nat) (636619772 : Int64)) ∈ al_K := List.mem_of_getElem? (i := 49) rfl
theorem wm_K_50 : (Jvm.Cond.constantLong "HouseFunctions$Reckoner" (94 : Nat) (1000000000000000 : Int64)) ∈ al_K := List.mem_of_getElem? (i := 50) rfl
theorem wm_K_51 : (Jvm.Cond.constantLong "HouseFunctions$Reckoner" (96 : Nat) (1000000 : Int64)) ∈ al_K := List.mem_of_getElem? (i := 51) rfl
theorem wm_K_52 : (Jvm.Cond.fieldLink "HouseFunctions$Reckoner" (98 : Nat) "HouseFunctions$Reckoner" "HALF_PI" "[J") ∈ al_K := List.mem_of_getElem? (i := 52) rfl
theorem wm_K_53 : (Jvm.Cond.methodLink "HouseFunctions$Reckoner" (101 : Nat) ({ cls := "HouseFunctions$Wide", name := "subtract", desc := "(LHouseFunctions$Wide;)V" } : Jvm.MethodName)) ∈ al_K := List.mem_of_getElem? (i := 53) rfl
theorem wm_K_54 : (Jvm.Cond.constantLong "HouseFunctions$Reckoner" (107 : Nat) (3 : Int64)) ∈ al_K := List.mem_of_getElem? (i := 54) rfl
theorem wm_K_55 : (Jvm.Cond.methodLink "HouseFunctions$Reckoner" (109 : Nat) ({ cls := "HouseFunctions$Reckoner", name := "sumFactorials", desc := "(I)V" } : Jvm.MethodName)) ∈ al_K := List.mem_of_getElem? (i := 55) rfl
theorem wm_K_56 : (Jvm.Cond.instanceMethod ({ cls := "HouseFunctions$Reckoner", name := "sumFactorials", desc := "(I)V" } : Jvm.MethodName)) ∈ al_K := List.mem_of_getElem? (i := 56) rfl
theorem wm_K_57 : (Jvm.Cond.code ({ cls := "HouseFunctions$Reckoner", name := "sumFactorials", desc := "(I)V" } : Jvm.MethodName) prog_2_method_13_code (4 : Nat) (Option.none : Option Jvm.ClassFile.FieldType)) ∈ al_K := List.mem_of_getElem? (i := 57) rfl
theorem wm_K_58 : (Jvm.Cond.instanceMethod ({ cls := "HouseFunctions$Reckoner", name := "pointTo", desc := "(II)V" } : Jvm.MethodName)) ∈ al_K := List.mem_of_getElem? (i := 58) rfl
theorem wm_K_59 : (Jvm.Cond.selects "HouseFunctions$Reckoner" ({ cls := "HouseFunctions$Reckoner", name := "pointTo", desc := "(II)V" } : Jvm.MethodName) ({ cls := "HouseFunctions$Reckoner", name := "pointTo", desc := "(II)V" } : Jvm.MethodName)) ∈ al_K := List.mem_of_getElem? (i := 59) rfl
theorem wm_K_60 : (Jvm.Cond.code ({ cls := "HouseFunctions$Reckoner", name := "pointTo", desc := "(II)V" } : Jvm.MethodName) prog_2_method_6_code (7 : Nat) (Option.none : Option Jvm.ClassFile.FieldType)) ∈ al_K := List.mem_of_getElem? (i := 60) rfl
theorem wm_K_61 : (Jvm.Cond.methodLink "HouseFunctions$Reckoner" (113 : Nat) ({ cls := "java/lang/Math", name := "min", desc := "(JJ)J" } : Jvm.MethodName)) ∈ al_K := List.mem_of_getElem? (i := 61) rfl
theorem wm_K_62 : (Jvm.Cond.methodLink "HouseFunctions$Reckoner" (117 : Nat) ({ cls := "java/lang/Math", name := "max", desc := "(JJ)J" } : Jvm.MethodName)) ∈ al_K := List.mem_of_getElem? (i := 62) rfl
theorem wm_K_63 : (Jvm.Cond.methodLink "HouseFunctions$Reckoner" (120 : Nat) ({ cls := "HouseFunctions$Reckoner", name := "setFlatAngle", desc := "(JJ)V" } : Jvm.MethodName)) ∈ al_K := List.mem_of_getElem? (i := 63) rfl
theorem wm_K_64 : (Jvm.Cond.instanceMethod ({ cls := "HouseFunctions$Reckoner", name := "setFlatAngle", desc := "(JJ)V" } : Jvm.MethodName)) ∈ al_K := List.mem_of_getElem? (i := 64) rfl
theorem wm_K_65 : (Jvm.Cond.code ({ cls := "HouseFunctions$Reckoner", name := "setFlatAngle", desc := "(JJ)V" } : Jvm.MethodName) prog_2_method_11_code (11 : Nat) (Option.none : Option Jvm.ClassFile.FieldType)) ∈ al_K := List.mem_of_getElem? (i := 65) rfl
theorem wm_K_66 : (Jvm.Cond.constantLong "HouseFunctions$Reckoner" (147 : Nat) (8 : Int64)) ∈ al_K := List.mem_of_getElem? (i := 66) rfl
theorem wm_K_67 : (Jvm.Cond.constantLong "HouseFunctions$Reckoner" (149 : Nat) (4 : Int64)) ∈ al_K := List.mem_of_getElem? (i := 67) rfl
theorem wm_K_68 : (Jvm.Cond.fieldLink "HouseFunctions$Reckoner" (151 : Nat) "HouseFunctions$Reckoner" "ANGLES_BY_QUARTER_TANGENT" "[J") ∈ al_K := List.mem_of_getElem? (i := 68) rfl
theorem wm_K_69 : (Jvm.Cond.methodLink "HouseFunctions$Reckoner" (123 : Nat) ({ cls := "HouseFunctions$Wide", name := "add", desc := "(LHouseFunctions$Wide;)V" } : Jvm.MethodName)) ∈ al_K := List.mem_of_getElem? (i := 69) rfl
theorem wm_K_70 : (Jvm.Cond.instanceMethod ({ cls := "HouseFunctions$Reckoner", name := "floorOfRoot", desc := "(JI)J" } : Jvm.MethodName)) ∈ al_K := List.mem_of_getElem? (i := 70) rfl
theorem wm_K_71 : (Jvm.Cond.selects "HouseFunctions$Reckoner" ({ cls := "HouseFunctions$Reckoner", name := "floorOfRoot", desc := "(JI)J" } : Jvm.MethodName) ({ cls := "HouseFunctions$Reckoner", name := "floorOfRoot", desc := "(JI)J" } : Jvm.MethodName)) ∈ al_K := List.mem_of_getElem? (i := 71) rfl
theorem wm_K_72 : (Jvm.Cond.code ({ cls := "HouseFunctions$Reckoner", name := "floorOfRoot", desc := "(JI)J" } : Jvm.MethodName) prog_2_method_7_code (9 : Nat) (Option.some Jvm.ClassFile.FieldType.long)) ∈ al_K := List.mem_of_getElem? (i := 72) rfl
theorem wm_K_73 : (Jvm.Cond.methodLink "HouseFunctions$Reckoner" (126 : Nat) ({ cls := "HouseFunctions$Wide", name := "loadInteger", desc := "(J)V" } : Jvm.MethodName)) ∈ al_K := List.mem_of_getElem? (i := 73) rfl
theorem wm_K_74 : (Jvm.Cond.constantLong "HouseFunctions$Reckoner" (129 : Nat) (1000000000 : Int64)) ∈ al_K := List.mem_of_getElem? (i := 74) rfl
theorem wm_K_75 : (Jvm.Cond.constantLong "HouseFunctions$Reckoner" (131 : Nat) (1000 : Int64)) ∈ al_K := List.mem_of_getElem? (i := 75) rfl
theorem wm_K_76 : (Jvm.Cond.methodLink "HouseFunctions$Reckoner" (133 : Nat) ({ cls := "HouseFunctions$Reckoner", name := "isPowerWithinKept", desc := "(JI)Z" } : Jvm.MethodName)) ∈ al_K := List.mem_of_getElem? (i := 76) rfl
theorem wm_K_77 : (Jvm.Cond.instanceMethod ({ cls := "HouseFunctions$Reckoner", name := "isPowerWithinKept", desc := "(JI)Z" } : Jvm.MethodName)) ∈ al_K := List.mem_of_getElem? (i := 77) rfl
theorem wm_K_78 : (Jvm.Cond.code ({ cls := "HouseFunctions$Reckoner", name := "isPowerWithinKept", desc := "(JI)Z" } : Jvm.MethodName) prog_2_method_10_code (5 : Nat) (Option.some Jvm.ClassFile.FieldType.boolean)) ∈ al_K := List.mem_of_getElem? (i := 78) rfl
theorem wm_K_79 : (Jvm.Cond.methodLink "HouseFunctions$Reckoner" (140 : Nat) ({ cls := "HouseFunctions$Wide", name := "multiplyInteger", desc := "(LHouseFunctions$Wide;)V" } : Jvm.MethodName)) ∈ al_K := List.mem_of_getElem? (i := 79) rfl
theorem wm_K_80 : (Jvm.Cond.methodLink "HouseFunctions$Reckoner" (143 : Nat) ({ cls := "HouseFunctions$Wide", name := "isAbove", desc := "(LHouseFunctions$Wide;)Z" } : Jvm.MethodName)) ∈ al_K := List.mem_of_getElem? (i := 80) rfl
theorem wm_K_81 : (Jvm.Cond.instanceMethod ({ cls := "HouseFunctions$Reckoner", name := "keepLog", desc := "()V" } : Jvm.MethodName)) ∈ al_K := List.mem_of_getElem? (i := 81) rfl
theorem wm_K_82 : (Jvm.Cond.selects "HouseFunctions$Reckoner" ({ cls := "HouseFunctions$Reckoner", name := "keepLog", desc := "()V" } : Jvm.MethodName) ({ cls := "HouseFunctions$Reckoner", name := "keepLog", desc := "()V" } : Jvm.MethodName)) ∈ al_K := List.mem_of_getElem? (i := 82) rfl
theorem wm_K_83 : (Jvm.Cond.code ({ cls := "HouseFunctions$Reckoner", name := "keepLog", desc := "()V" } : Jvm.MethodName) prog_2_method_8_code (1 : Nat) (Option.none : Option Jvm.ClassFile.FieldType)) ∈ al_K := List.mem_of_getElem? (i := 83) rfl
theorem wm_K_84 : (Jvm.Cond.instanceMethod ({ cls := "HouseFunctions$Reckoner", name := "isRatioBelowKept", desc := "(JJ)Z" } : Jvm.MethodName)) ∈ al_K := List.mem_of_getElem? (i := 84) rfl
theorem wm_K_85 : (Jvm.Cond.selects "HouseFunctions$Reckoner" ({ cls := "HouseFunctions$Reckoner", name := "isRatioBelowKept", desc := "(JJ)Z" } : Jvm.MethodName) ({ cls := "HouseFunctions$Reckoner", name := "isRatioBelowKept", desc := "(JJ)Z" } : Jvm.MethodName)) ∈ al_K := List.mem_of_getElem? (i := 85) rfl
theorem wm_K_86 : (Jvm.Cond.code ({ cls := "HouseFunctions$Reckoner", name := "isRatioBelowKept", desc := "(JJ)Z" } : Jvm.MethodName) prog_2_method_9_code (5 : Nat) (Option.some Jvm.ClassFile.FieldType.boolean)) ∈ al_K := List.mem_of_getElem? (i := 86) rfl
theorem wm_K_87 : (Jvm.Cond.methodLink "HouseFunctions$Reckoner" (137 : Nat) ({ cls := "HouseFunctions$Wide", name := "isNegative", desc := "()Z" } : Jvm.MethodName)) ∈ al_K := List.mem_of_getElem? (i := 87) rfl
theorem wm_K_88 : (Jvm.Cond.selects "HouseFunctions$Reckoner" ({ cls := "HouseFunctions$Reckoner", name := "sumOddPowers", desc := "(Z)V" } : Jvm.MethodName) ({ cls := "HouseFunctions$Reckoner", name := "sumOddPowers", desc := "(Z)V" } : Jvm.MethodName)) ∈ al_K := List.mem_of_getElem? (i := 88) rfl
theorem wm_K_89 : (Jvm.Cond.selects "HouseFunctions$Reckoner" ({ cls := "HouseFunctions$Reckoner", name := "sumFactorials", desc := "(I)V" } : Jvm.MethodName) ({ cls := "HouseFunctions$Reckoner", name := "sumFactorials", desc := "(I)V" } : Jvm.MethodName)) ∈ al_K := List.mem_of_getElem? (i := 89) rfl
theorem wm_K_90 : (Jvm.Cond.selects "HouseFunctions$Reckoner" ({ cls := "HouseFunctions$Reckoner", name := "setFlatAngle", desc := "(JJ)V" } : Jvm.MethodName) ({ cls := "HouseFunctions$Reckoner", name := "setFlatAngle", desc := "(JJ)V" } : Jvm.MethodName)) ∈ al_K := List.mem_of_getElem? (i := 90) rfl
theorem wm_K_91 : (Jvm.Cond.selects "HouseFunctions$Reckoner" ({ cls := "HouseFunctions$Reckoner", name := "isPowerWithinKept", desc := "(JI)Z" } : Jvm.MethodName) ({ cls := "HouseFunctions$Reckoner", name := "isPowerWithinKept", desc := "(JI)Z" } : Jvm.MethodName)) ∈ al_K := List.mem_of_getElem? (i := 91) rfl
theorem wm_K_92 : (Jvm.Cond.instanceMethod ({ cls := "java/lang/Object", name := "<init>", desc := "()V" } : Jvm.MethodName)) ∈ al_K := List.mem_of_getElem? (i := 92) rfl
theorem wm_K_93 : (Jvm.Cond.code ({ cls := "java/lang/Object", name := "<init>", desc := "()V" } : Jvm.MethodName) object_method_1_code (1 : Nat) (Option.none : Option Jvm.ClassFile.FieldType)) ∈ al_K := List.mem_of_getElem? (i := 93) rfl
theorem wm_K_94 : (Jvm.Cond.initialized "java/lang/Math") ∈ al_K := List.mem_of_getElem? (i := 94) rfl
theorem wm_K_95 : (Jvm.Cond.static ({ cls := "java/lang/Math", name := "abs", desc := "(J)J" } : Jvm.MethodName)) ∈ al_K := List.mem_of_getElem? (i := 95) rfl
theorem wm_K_96 : (Jvm.Cond.code ({ cls := "java/lang/Math", name := "abs", desc := "(J)J" } : Jvm.MethodName) prog_10_method_61_code (2 : Nat) (Option.some Jvm.ClassFile.FieldType.long)) ∈ al_K := List.mem_of_getElem? (i := 96) rfl
theorem wm_K_97 : (Jvm.Cond.static ({ cls := "java/lang/Math", name := "abs", desc := "(I)I" } : Jvm.MethodName)) ∈ al_K := List.mem_of_getElem? (i := 97) rfl
theorem wm_K_98 : (Jvm.Cond.code ({ cls := "java/lang/Math", name := "abs", desc := "(I)I" } : Jvm.MethodName) prog_10_method_59_code (1 : Nat) (Option.some Jvm.ClassFile.FieldType.int)) ∈ al_K := List.mem_of_getElem? (i := 98) rfl
theorem wm_K_99 : (Jvm.Cond.static ({ cls := "java/lang/Math", name := "min", desc := "(JJ)J" } : Jvm.MethodName)) ∈ al_K := List.mem_of_getElem? (i := 99) rfl
theorem wm_K_100 : (Jvm.Cond.code ({ cls := "java/lang/Math", name := "min", desc := "(JJ)J" } : Jvm.MethodName) prog_10_method_70_code (4 : Nat) (Option.some Jvm.ClassFile.FieldType.long)) ∈ al_K := List.mem_of_getElem? (i := 100) rfl
theorem wm_K_101 : (Jvm.Cond.static ({ cls := "java/lang/Math", name := "max", desc := "(JJ)J" } : Jvm.MethodName)) ∈ al_K := List.mem_of_getElem? (i := 101) rfl
theorem wm_K_102 : (Jvm.Cond.code ({ cls := "java/lang/Math", name := "max", desc := "(JJ)J" } : Jvm.MethodName) prog_10_method_66_code (4 : Nat) (Option.some Jvm.ClassFile.FieldType.long)) ∈ al_K := List.mem_of_getElem? (i := 102) rfl
theorem wm_K_103 : (Jvm.Cond.initialized "HouseFunctions$Wide") ∈ al_K := List.mem_of_getElem? (i := 103) rfl
theorem wm_K_104 : (Jvm.Cond.instantiable "HouseFunctions$Wide" (2 : Nat)) ∈ al_K := List.mem_of_getElem? (i := 104) rfl
theorem wm_K_105 : (Jvm.Cond.instanceMethod ({ cls := "HouseFunctions$Wide", name := "<init>", desc := "()V" } : Jvm.MethodName)) ∈ al_K := List.mem_of_getElem? (i := 105) rfl
theorem wm_K_106 : (Jvm.Cond.code ({ cls := "HouseFunctions$Wide", name := "<init>", desc := "()V" } : Jvm.MethodName) prog_4_method_1_code (1 : Nat) (Option.none : Option Jvm.ClassFile.FieldType)) ∈ al_K := List.mem_of_getElem? (i := 106) rfl
theorem wm_K_107 : (Jvm.Cond.methodLink "HouseFunctions$Wide" (1 : Nat) ({ cls := "java/lang/Object", name := "<init>", desc := "()V" } : Jvm.MethodName)) ∈ al_K := List.mem_of_getElem? (i := 107) rfl
theorem wm_K_108 : (Jvm.Cond.fieldLink "HouseFunctions$Wide" (9 : Nat) "HouseFunctions$Wide" "limbs" "[J") ∈ al_K := List.mem_of_getElem? (i := 108) rfl
theorem wm_K_109 : (Jvm.Cond.fieldLink "HouseFunctions$Wide" (13 : Nat) "HouseFunctions$Wide" "product" "[J") ∈ al_K := List.mem_of_getElem? (i := 109) rfl
theorem wm_K_110 : (Jvm.Cond.laysFinal "HouseFunctions$Wide" "HouseFunctions$Wide" "limbs" "[J") ∈ al_K := List.mem_of_getElem? (i := 110) rfl
theorem wm_K_111 : (Jvm.Cond.laysFinal "HouseFunctions$Wide" "HouseFunctions$Wide" "product" "[J") ∈ al_K := List.mem_of_getElem? (i := 111) rfl
theorem wm_K_112 : (Jvm.Cond.instanceMethod ({ cls := "HouseFunctions$Wide", name := "load", desc := "(J)V" } : Jvm.MethodName)) ∈ al_K := List.mem_of_getElem? (i := 112) rfl
theorem wm_K_113 : (Jvm.Cond.selects "HouseFunctions$Wide" ({ cls := "HouseFunctions$Wide", name := "load", desc := "(J)V" } : Jvm.MethodName) ({ cls := "HouseFunctions$Wide", name := "load", desc := "(J)V" } : Jvm.MethodName)) ∈ al_K := List.mem_of_getElem? (i := 113) rfl
theorem wm_K_114 : (Jvm.Cond.code ({ cls := "HouseFunctions$Wide", name := "load", desc := "(J)V" } : Jvm.MethodName) prog_4_method_2_code (3 : Nat) (Option.none : Option Jvm.ClassFile.FieldType)) ∈ al_K := List.mem_of_getElem? (i := 114) rfl
theorem wm_K_115 : (Jvm.Cond.methodLink "HouseFunctions$Wide" (16 : Nat) ({ cls := "java/util/Arrays", name := "fill", desc := "([JJ)V" } : Jvm.MethodName)) ∈ al_K := List.mem_of_getElem? (i := 115) rfl
theorem wm_K_116 : (Jvm.Cond.constantLong "HouseFunctions$Wide" (22 : Nat) (4294967295 : Int64)) ∈ al_K := List.mem_of_getElem? (i := 116) rfl
theorem wm_K_117 : (Jvm.Cond.instanceMethod ({ cls := "HouseFunctions$Wide", name := "isZero", desc := "()Z" } : Jvm.MethodName)) ∈ al_K := List.mem_of_getElem? (i := 117) rfl
theorem wm_K_118 : (Jvm.Cond.selects "HouseFunctions$Wide" ({ cls := "HouseFunctions$Wide", name := "isZero", desc := "()Z" } : Jvm.MethodName) ({ cls := "HouseFunctions$Wide", name := "isZero", desc := "()Z" } : Jvm.MethodName)) ∈ al_K := List.mem_of_getElem? (i := 118) rfl
theorem wm_K_119 : (Jvm.Cond.code ({ cls := "HouseFunctions$Wide", name := "isZero", desc := "()Z" } : Jvm.MethodName) prog_4_method_16_code (2 : Nat) (Option.some Jvm.ClassFile.FieldType.boolean)) ∈ al_K := List.mem_of_getElem? (i := 119) rfl
theorem wm_K_120 : (Jvm.Cond.instanceMethod ({ cls := "HouseFunctions$Wide", name := "scale", desc := "(J)V" } : Jvm.MethodName)) ∈ al_K := List.mem_of_getElem? (i := 120) rfl
theorem wm_K_121 : (Jvm.Cond.selects "HouseFunctions$Wide" ({ cls := "HouseFunctions$Wide", name := "scale", desc := "(J)V" } : Jvm.MethodName) ({ cls := "HouseFunctions$Wide", name := "scale", desc := "(J)V" } : Jvm.MethodName)) ∈ al_K := List.mem_of_getElem? (i := 121) rfl
theorem wm_K_122 : (Jvm.Cond.code ({ cls := "HouseFunctions$Wide", name := "scale", desc := "(J)V" } : Jvm.MethodName) prog_4_method_11_code (8 : Nat) (Option.none : Option Jvm.ClassFile.FieldType)) ∈ al_K := List.mem_of_getElem? (i := 122) rfl
theorem wm_K_123 : (Jvm.Cond.instanceMethod ({ cls := "HouseFunctions$Wide", name := "divide", desc := "(J)V" } : Jvm.MethodName)) ∈ al_K := List.mem_of_getElem? (i := 123) rfl
theorem wm_K_124 : (Jvm.Cond.selects "HouseFunctions$Wide" ({ cls := "HouseFunctions$Wide", name := "divide", desc := "(J)V" } : Jvm.MethodName) ({ cls := "HouseFunctions$Wide", name := "divide", desc := "(J)V" } : Jvm.MethodName)) ∈ al_K := List.mem_of_getElem? (i := 124) rfl
theorem wm_K_125 : (Jvm.Cond.code ({ cls := "HouseFunctions$Wide", name := "divide", desc := "(J)V" } : Jvm.MethodName) prog_4_method_12_code (14 : Nat) (Option.none : Option Jvm.ClassFile.FieldType)) ∈ al_K := List.mem_of_getElem? (i := 125) rfl
theorem wm_K_126 : (Jvm.Cond.constantLong "HouseFunctions$Wide" (38 : Nat) (140737488355328 : Int64)) ∈ al_K := List.mem_of_getElem? (i := 126) rfl
theorem wm_K_127 : (Jvm.Cond.constantLong "HouseFunctions$Wide" (40 : Nat) (65535 : Int64)) ∈ al_K := List.mem_of_getElem? (i := 127) rfl
theorem wm_K_128 : (Jvm.Cond.instanceMethod ({ cls := "HouseFunctions$Wide", name := "addOrSubtract", desc := "(LHouseFunctions$Wide;Z)V" } : Jvm.MethodName)) ∈ al_K := List.mem_of_getElem? (i := 128) rfl
theorem wm_K_129 : (Jvm.Cond.selects "HouseFunctions$Wide" ({ cls := "HouseFunctions$Wide", name := "addOrSubtract", desc := "(LHouseFunctions$Wide;Z)V" } : Jvm.MethodName) ({ cls := "HouseFunctions$Wide", name := "addOrSubtract", desc := "(LHouseFunctions$Wide;Z)V" } : Jvm.MethodName)) ∈ al_K := List.mem_of_getElem? (i := 129) rfl
theorem wm_K_130 : (Jvm.Cond.code ({ cls := "HouseFunctions$Wide", name := "addOrSubtract", desc := "(LHouseFunctions$Wide;Z)V" } : Jvm.MethodName) prog_4_method_9_code (3 : Nat) (Option.none : Option Jvm.ClassFile.FieldType)) ∈ al_K := List.mem_of_getElem? (i := 130) rfl
theorem wm_K_131 : (Jvm.Cond.methodLink "HouseFunctions$Wide" (31 : Nat) ({ cls := "HouseFunctions$Wide", name := "subtract", desc := "(LHouseFunctions$Wide;)V" } : Jvm.MethodName)) ∈ al_K := List.mem_of_getElem? (i := 131) rfl
theorem wm_K_132 : (Jvm.Cond.instanceMethod ({ cls := "HouseFunctions$Wide", name := "subtract", desc := "(LHouseFunctions$Wide;)V" } : Jvm.MethodName)) ∈ al_K := List.mem_of_getElem? (i := 132) rfl
theorem wm_K_133 : (Jvm.Cond.selects "HouseFunctions$Wide" ({ cls := "HouseFunctions$Wide", name := "subtract", desc := "(LHouseFunctions$Wide;)V" } : Jvm.MethodName) ({ cls := "HouseFunctions$Wide", name := "subtract", desc := "(LHouseFunctions$Wide;)V" } : Jvm.MethodName)) ∈ al_K := List.mem_of_getElem? (i := 133) rfl
theorem wm_K_134 : (Jvm.Cond.code ({ cls := "HouseFunctions$Wide", name := "subtract", desc := "(LHouseFunctions$Wide;)V" } : Jvm.MethodName) prog_4_method_8_code (7 : Nat) (Option.none : Option Jvm.ClassFile.FieldType)) ∈ al_K := List.mem_of_getElem? (i := 134) rfl
theorem wm_K_135 : (Jvm.Cond.methodLink "HouseFunctions$Wide" (35 : Nat) ({ cls := "HouseFunctions$Wide", name := "add", desc := "(LHouseFunctions$Wide;)V" } : Jvm.MethodName)) ∈ al_K := List.mem_of_getElem? (i := 135) rfl
theorem wm_K_136 : (Jvm.Cond.instanceMethod ({ cls := "HouseFunctions$Wide", name := "add", desc := "(LHouseFunctions$Wide;)V" } : Jvm.MethodName)) ∈ al_K := List.mem_of_getElem? (i := 136) rfl
theorem wm_K_137 : (Jvm.Cond.selects "HouseFunctions$Wide" ({ cls := "HouseFunctions$Wide", name := "add", desc := "(LHouseFunctions$Wide;)V" } : Jvm.MethodName) ({ cls := "HouseFunctions$Wide", name := "add", desc := "(LHouseFunctions$Wide;)V" } : Jvm.MethodName)) ∈ al_K := List.mem_of_getElem? (i := 137) rfl
theorem wm_K_138 : (Jvm.Cond.code ({ cls := "HouseFunctions$Wide", name := "add", desc := "(LHouseFunctions$Wide;)V" } : Jvm.MethodName) prog_4_method_7_code (7 : Nat) (Option.none : Option Jvm.ClassFile.FieldType)) ∈ al_K := List.mem_of_getElem? (i := 138) rfl
theorem wm_K_139 : (Jvm.Cond.instanceMethod ({ cls := "HouseFunctions$Wide", name := "multiply", desc := "(LHouseFunctions$Wide;)V" } : Jvm.MethodName)) ∈ al_K := List.mem_of_getElem? (i := 139) rfl
theorem wm_K_140 : (Jvm.Cond.selects "HouseFunctions$Wide" ({ cls := "HouseFunctions$Wide", name := "multiply", desc := "(LHouseFunctions$Wide;)V" } : Jvm.MethodName) ({ cls := "HouseFunctions$Wide", name := "multiply", desc := "(LHouseFunctions$Wide;)V" } : Jvm.MethodName)) ∈ al_K := List.mem_of_getElem? (i := 140) rfl
theorem wm_K_141 : (Jvm.Cond.code ({ cls := "HouseFunctions$Wide", name := "multiply", desc := "(LHouseFunctions$Wide;)V" } : Jvm.MethodName) prog_4_method_13_code (2 : Nat) (Option.none : Option Jvm.ClassFile.FieldType)) ∈ al_K := List.mem_of_getElem? (i := 141) rfl
theorem wm_K_142 : (Jvm.Cond.methodLink "HouseFunctions$Wide" (42 : Nat) ({ cls := "HouseFunctions$Wide", name := "multiplyAndDrop", desc := "(LHouseFunctions$Wide;I)V" } : Jvm.MethodName)) ∈ al_K := List.mem_of_getElem? (i := 142) rfl
theorem wm_K_143 : (Jvm.Cond.instanceMethod ({ cls := "HouseFunctions$Wide", name := "multiplyAndDrop", desc := "(LHouseFunctions$Wide;I)V" } : Jvm.MethodName)) ∈ al_K := List.mem_of_getElem? (i := 143) rfl
theorem wm_K_144 : (Jvm.Cond.code ({ cls := "HouseFunctions$Wide", name := "multiplyAndDrop", desc := "(LHouseFunctions$Wide;I)V" } : Jvm.MethodName) prog_4_method_15_code (11 : Nat) (Option.none : Option Jvm.ClassFile.FieldType)) ∈ al_K := List.mem_of_getElem? (i := 144) rfl
theorem wm_K_145 : (Jvm.Cond.methodLink "HouseFunctions$Wide" (46 : Nat) ({ cls := "java/lang/Math", name := "max", desc := "(II)I" } : Jvm.MethodName)) ∈ al_K := List.mem_of_getElem? (i := 145) rfl
theorem wm_K_146 : (Jvm.Cond.instanceMethod ({ cls := "HouseFunctions$Wide", name := "whole", desc := "()J" } : Jvm.MethodName)) ∈ al_K := List.mem_of_getElem? (i := 146) rfl
theorem wm_K_147 : (Jvm.Cond.selects "HouseFunctions$Wide" ({ cls := "HouseFunctions$Wide", name := "whole", desc := "()J" } : Jvm.MethodName) ({ cls := "HouseFunctions$Wide", name := "whole", desc := "()J" } : Jvm.MethodName)) ∈ al_K := List.mem_of_getElem? (i := 147) rfl
theorem wm_K_148 : (Jvm.Cond.code ({ cls := "HouseFunctions$Wide", name := "whole", desc := "()J" } : Jvm.MethodName) prog_4_method_19_code (1 : Nat) (Option.some Jvm.ClassFile.FieldType.long)) ∈ al_K := List.mem_of_getElem? (i := 148) rfl
theorem wm_K_149 : (Jvm.Cond.instanceMethod ({ cls := "HouseFunctions$Wide", name := "loadRatio", desc := "(JJ)V" } : Jvm.MethodName)) ∈ al_K := List.mem_of_getElem? (i := 149) rfl
theorem wm_K_150 : (Jvm.Cond.selects "HouseFunctions$Wide" ({ cls := "HouseFunctions$Wide", name := "loadRatio", desc := "(JJ)V" } : Jvm.MethodName) ({ cls := "HouseFunctions$Wide", name := "loadRatio", desc := "(JJ)V" } : Jvm.MethodName)) ∈ al_K := List.mem_of_getElem? (i := 150) rfl
theorem wm_K_151 : (Jvm.Cond.code ({ cls := "HouseFunctions$Wide", name := "loadRatio", desc := "(JJ)V" } : Jvm.MethodName) prog_4_method_4_code (5 : Nat) (Option.none : Option Jvm.ClassFile.FieldType)) ∈ al_K := List.mem_of_getElem? (i := 151) rfl
theorem wm_K_152 : (Jvm.Cond.methodLink "HouseFunctions$Wide" (24 : Nat) ({ cls := "HouseFunctions$Wide", name := "load", desc := "(J)V" } : Jvm.MethodName)) ∈ al_K := List.mem_of_getElem? (i := 152) rfl
theorem wm_K_153 : (Jvm.Cond.methodLink "HouseFunctions$Wide" (28 : Nat) ({ cls := "HouseFunctions$Wide", name := "divide", desc := "(J)V" } : Jvm.MethodName)) ∈ al_K := List.mem_of_getElem? (i := 153) rfl
theorem wm_K_154 : (Jvm.Cond.instanceMethod ({ cls := "HouseFunctions$Wide", name := "loadWide", desc := "(LHouseFunctions$Wide;)V" } : Jvm.MethodName)) ∈ al_K := List.mem_of_getElem? (i := 154) rfl
theorem wm_K_155 : (Jvm.Cond.selects "HouseFunctions$Wide" ({ cls := "HouseFunctions$Wide", name := "loadWide", desc := "(LHouseFunctions$Wide;)V" } : Jvm.MethodName) ({ cls := "HouseFunctions$Wide", name := "loadWide", desc := "(LHouseFunctions$Wide;)V" } : Jvm.MethodName)) ∈ al_K := List.mem_of_getElem? (i := 155) rfl
theorem wm_K_156 : (Jvm.Cond.code ({ cls := "HouseFunctions$Wide", name := "loadWide", desc := "(LHouseFunctions$Wide;)V" } : Jvm.MethodName) prog_4_method_5_code (3 : Nat) (Option.none : Option Jvm.ClassFile.FieldType)) ∈ al_K := List.mem_of_getElem? (i := 156) rfl
theorem wm_K_157 : (Jvm.Cond.instanceMethod ({ cls := "HouseFunctions$Wide", name := "negate", desc := "()V" } : Jvm.MethodName)) ∈ al_K := List.mem_of_getElem? (i := 157) rfl
theorem wm_K_158 : (Jvm.Cond.selects "HouseFunctions$Wide" ({ cls := "HouseFunctions$Wide", name := "negate", desc := "()V" } : Jvm.MethodName) ({ cls := "HouseFunctions$Wide", name := "negate", desc := "()V" } : Jvm.MethodName)) ∈ al_K := List.mem_of_getElem? (i := 158) rfl
theorem wm_K_159 : (Jvm.Cond.code ({ cls := "HouseFunctions$Wide", name := "negate", desc := "()V" } : Jvm.MethodName) prog_4_method_10_code (6 : Nat) (Option.none : Option Jvm.ClassFile.FieldType)) ∈ al_K := List.mem_of_getElem? (i := 159) rfl
theorem wm_K_160 : (Jvm.Cond.instanceMethod ({ cls := "HouseFunctions$Wide", name := "loadLimbs", desc := "([JI)V" } : Jvm.MethodName)) ∈ al_K := List.mem_of_getElem? (i := 160) rfl
theorem wm_K_161 : (Jvm.Cond.selects "HouseFunctions$Wide" ({ cls := "HouseFunctions$Wide", name := "loadLimbs", desc := "([JI)V" } : Jvm.MethodName) ({ cls := "HouseFunctions$Wide", name := "loadLimbs", desc := "([JI)V" } : Jvm.MethodName)) ∈ al_K := List.mem_of_getElem? (i := 161) rfl
theorem wm_K_162 : (Jvm.Cond.code ({ cls := "HouseFunctions$Wide", name := "loadLimbs", desc := "([JI)V" } : Jvm.MethodName) prog_4_method_6_code (5 : Nat) (Option.none : Option Jvm.ClassFile.FieldType)) ∈ al_K := List.mem_of_getElem? (i := 162) rfl
theorem wm_K_163 : (Jvm.Cond.instanceMethod ({ cls := "HouseFunctions$Wide", name := "loadInteger", desc := "(J)V" } : Jvm.MethodName)) ∈ al_K := List.mem_of_getElem? (i := 163) rfl
theorem wm_K_164 : (Jvm.Cond.selects "HouseFunctions$Wide" ({ cls := "HouseFunctions$Wide", name := "loadInteger", desc := "(J)V" } : Jvm.MethodName) ({ cls := "HouseFunctions$Wide", name := "loadInteger", desc := "(J)V" } : Jvm.MethodName)) ∈ al_K := List.mem_of_getElem? (i := 164) rfl
theorem wm_K_165 : (Jvm.Cond.code ({ cls := "HouseFunctions$Wide", name := "loadInteger", desc := "(J)V" } : Jvm.MethodName) prog_4_method_3_code (3 : Nat) (Option.none : Option Jvm.ClassFile.FieldType)) ∈ al_K := List.mem_of_getElem? (i := 165) rfl
theorem wm_K_166 : (Jvm.Cond.instanceMethod ({ cls := "HouseFunctions$Wide", name := "multiplyInteger", desc := "(LHouseFunctions$Wide;)V" } : Jvm.MethodName)) ∈ al_K := List.mem_of_getElem? (i := 166) rfl
theorem wm_K_167 : (Jvm.Cond.selects "HouseFunctions$Wide" ({ cls := "HouseFunctions$Wide", name := "multiplyInteger", desc := "(LHouseFunctions$Wide;)V" } : Jvm.MethodName) ({ cls := "HouseFunctions$Wide", name := "multiplyInteger", desc := "(LHouseFunctions$Wide;)V" } : Jvm.MethodName)) ∈ al_K := List.mem_of_getElem? (i := 167) rfl
theorem wm_K_168 : (Jvm.Cond.code ({ cls := "HouseFunctions$Wide", name := "multiplyInteger", desc := "(LHouseFunctions$Wide;)V" } : Jvm.MethodName) prog_4_method_14_code (2 : Nat) (Option.none : Option Jvm.ClassFile.FieldType)) ∈ al_K := List.mem_of_getElem? (i := 168) rfl
theorem wm_K_169 : (Jvm.Cond.instanceMethod ({ cls := "HouseFunctions$Wide", name := "isAbove", desc := "(LHouseFunctions$Wide;)Z" } : Jvm.MethodName)) ∈ al_K := List.mem_of_getElem? (i := 169) rfl
theorem wm_K_170 : (Jvm.Cond.selects "HouseFunctions$Wide" ({ cls := "HouseFunctions$Wide", name := "isAbove", desc := "(LHouseFunctions$Wide;)Z" } : Jvm.MethodName) ({ cls := "HouseFunctions$Wide", name := "isAbove", desc := "(LHouseFunctions$Wide;)Z" } : Jvm.MethodName)) ∈ al_K := List.mem_of_getElem? (i := 170) rfl
theorem wm_K_171 : (Jvm.Cond.code ({ cls := "HouseFunctions$Wide", name := "isAbove", desc := "(LHouseFunctions$Wide;)Z" } : Jvm.MethodName) prog_4_method_18_code (3 : Nat) (Option.some Jvm.ClassFile.FieldType.boolean)) ∈ al_K := List.mem_of_getElem? (i := 171) rfl
theorem wm_K_172 : (Jvm.Cond.instanceMethod ({ cls := "HouseFunctions$Wide", name := "isNegative", desc := "()Z" } : Jvm.MethodName)) ∈ al_K := List.mem_of_getElem? (i := 172) rfl
theorem wm_K_173 : (Jvm.Cond.selects "HouseFunctions$Wide" ({ cls := "HouseFunctions$Wide", name := "isNegative", desc := "()Z" } : Jvm.MethodName) ({ cls := "HouseFunctions$Wide", name := "isNegative", desc := "()Z" } : Jvm.MethodName)) ∈ al_K := List.mem_of_getElem? (i := 173) rfl
theorem wm_K_174 : (Jvm.Cond.code ({ cls := "HouseFunctions$Wide", name := "isNegative", desc := "()Z" } : Jvm.MethodName) prog_4_method_17_code (1 : Nat) (Option.some Jvm.ClassFile.FieldType.boolean)) ∈ al_K := List.mem_of_getElem? (i := 174) rfl
theorem wm_K_175 : (Jvm.Cond.constantLong "HouseFunctions$Wide" (52 : Nat) (2147483648 : Int64)) ∈ al_K := List.mem_of_getElem? (i := 175) rfl
theorem wm_K_176 : (Jvm.Cond.selects "HouseFunctions$Wide" ({ cls := "HouseFunctions$Wide", name := "multiplyAndDrop", desc := "(LHouseFunctions$Wide;I)V" } : Jvm.MethodName) ({ cls := "HouseFunctions$Wide", name := "multiplyAndDrop", desc := "(LHouseFunctions$Wide;I)V" } : Jvm.MethodName)) ∈ al_K := List.mem_of_getElem? (i := 176) rfl
theorem wm_K_177 : (Jvm.Cond.instanceMethod ({ cls := "java/lang/Object", name := "<init>", desc := "()V" } : Jvm.MethodName)) ∈ al_K := List.mem_of_getElem? (i := 177) rfl
theorem wm_K_178 : (Jvm.Cond.code ({ cls := "java/lang/Object", name := "<init>", desc := "()V" } : Jvm.MethodName) object_method_1_code (1 : Nat) (Option.none : Option Jvm.ClassFile.FieldType)) ∈ al_K := List.mem_of_getElem? (i := 178) rfl
theorem wm_K_179 : (Jvm.Cond.initialized "java/util/Arrays") ∈ al_K := List.mem_of_getElem? (i := 179) rfl
theorem wm_K_180 : (Jvm.Cond.static ({ cls := "java/util/Arrays", name := "fill", desc := "([JJ)V" } : Jvm.MethodName)) ∈ al_K := List.mem_of_getElem? (i := 180) rfl
theorem wm_K_181 : (Jvm.Cond.code ({ cls := "java/util/Arrays", name := "fill", desc := "([JJ)V" } : Jvm.MethodName) prog_14_method_101_code (5 : Nat) (Option.none : Option Jvm.ClassFile.FieldType)) ∈ al_K := List.mem_of_getElem? (i := 181) rfl
theorem wm_K_182 : (Jvm.Cond.initialized "java/lang/Math") ∈ al_K := List.mem_of_getElem? (i := 182) rfl
theorem wm_K_183 : (Jvm.Cond.static ({ cls := "java/lang/Math", name := "max", desc := "(II)I" } : Jvm.MethodName)) ∈ al_K := List.mem_of_getElem? (i := 183) rfl
theorem wm_K_184 : (Jvm.Cond.code ({ cls := "java/lang/Math", name := "max", desc := "(II)I" } : Jvm.MethodName) prog_10_method_65_code (2 : Nat) (Option.some Jvm.ClassFile.FieldType.int)) ∈ al_K := List.mem_of_getElem? (i := 184) rfl
theorem wm_K_185 : (Jvm.Cond.arrayClass Jvm.ClassFile.FieldType.long) ∈ al_K := List.mem_of_getElem? (i := 185) rfl
def al_T : List Jvm.Cond := [(Jvm.Cond.initialized "HouseFunctions$Table"),
  (Jvm.Cond.instantiable "HouseFunctions$Table" (3 : Nat)),
  (Jvm.Cond.instanceMethod ({ cls := "HouseFunctions$Table", name := "<init>", desc := "()V" } : Jvm.MethodName)),
  (Jvm.Cond.code ({ cls := "HouseFunctions$Table", name := "<init>", desc := "()V" } : Jvm.MethodName) prog_3_method_1_code (1 : Nat) (Option.none : Option Jvm.ClassFile.FieldType)),
  (Jvm.Cond.methodLink "HouseFunctions$Table" (3 : Nat) ({ cls := "java/lang/Object", name := "<init>", desc := "()V" } : Jvm.MethodName)),
  (Jvm.Cond.fieldLink "HouseFunctions$Table" (9 : Nat) "HouseFunctions$Table" "places" "[I"),
  (Jvm.Cond.fieldLink "HouseFunctions$Table" (15 : Nat) "HouseFunctions$Table" "values" "[I"),
  (Jvm.Cond.fieldLink "HouseFunctions$Table" (18 : Nat) "HouseFunctions$Table" "count" "I"),
  (Jvm.Cond.laysFinal "HouseFunctions$Table" "HouseFunctions$Table" "places" "[I"),
  (Jvm.Cond.laysFinal "HouseFunctions$Table" "HouseFunctions$Table" "values" "[I"),
  (Jvm.Cond.lays "HouseFunctions$Table" "HouseFunctions$Table" "count" "I"),
  (Jvm.Cond.instanceMethod ({ cls := "HouseFunctions$Table", name := "isFull", desc := "()Z" } : Jvm.MethodName)),
  (Jvm.Cond.selects "HouseFunctions$Table" ({ cls := "HouseFunctions$Table", name := "isFull", desc := "()Z" } : Jvm.MethodName) ({ cls := "HouseFunctions$Table", name := "isFull", desc := "()Z" } : Jvm.MethodName)),
  (Jvm.Cond.code ({ cls := "HouseFunctions$Table", name := "isFull", desc := "()Z" } : Jvm.MethodName) prog_3_method_2_code (1 : Nat) (Option.some Jvm.ClassFile.FieldType.boolean)),
  (Jvm.Cond.instanceMethod ({ cls := "HouseFunctions$Table", name := "append", desc := "(II)I" } : Jvm.MethodName)),
  (Jvm.Cond.selects "HouseFunctions$Table" ({ cls := "HouseFunctions$Table", name := "append", desc := "(II)I" } : Jvm.MethodName) ({ cls := "HouseFunctions$Table", name := "append", desc := "(II)I" } : Jvm.MethodName)),
  (Jvm.Cond.code ({ cls := "HouseFunctions$Table", name := "append", desc := "(II)I" } : Jvm.MethodName) prog_3_method_3_code (3 : Nat) (Option.some Jvm.ClassFile.FieldType.int)),
  (Jvm.Cond.methodLink "HouseFunctions$Table" (22 : Nat) ({ cls := "HouseFunctions$Table", name := "isFull", desc := "()Z" } : Jvm.MethodName)),
  (Jvm.Cond.instanceMethod ({ cls := "HouseFunctions$Table", name := "valueBy", desc := "(I)J" } : Jvm.MethodName)),
  (Jvm.Cond.selects "HouseFunctions$Table" ({ cls := "HouseFunctions$Table", name := "valueBy", desc := "(I)J" } : Jvm.MethodName) ({ cls := "HouseFunctions$Table", name := "valueBy", desc := "(I)J" } : Jvm.MethodName)),
  (Jvm.Cond.code ({ cls := "HouseFunctions$Table", name := "valueBy", desc := "(I)J" } : Jvm.MethodName) prog_3_method_4_code (3 : Nat) (Option.some Jvm.ClassFile.FieldType.long)),
  (Jvm.Cond.constantLong "HouseFunctions$Table" (26 : Nat) (-9223372036854775808 : Int64)),
  (Jvm.Cond.methodLink "HouseFunctions$Table" (28 : Nat) ({ cls := "HouseFunctions$Table", name := "valueBefore", desc := "(II)J" } : Jvm.MethodName)),
  (Jvm.Cond.instanceMethod ({ cls := "HouseFunctions$Table", name := "valueBefore", desc := "(II)J" } : Jvm.MethodName)),
  (Jvm.Cond.code ({ cls := "HouseFunctions$Table", name := "valueBefore", desc := "(II)J" } : Jvm.MethodName) prog_3_method_5_code (9 : Nat) (Option.some Jvm.ClassFile.FieldType.long)),
  (Jvm.Cond.methodLink "HouseFunctions$Table" (32 : Nat) ({ cls := "java/lang/Math", name := "floorDiv", desc := "(JJ)J" } : Jvm.MethodName)),
  (Jvm.Cond.selects "HouseFunctions$Table" ({ cls := "HouseFunctions$Table", name := "valueBefore", desc := "(II)J" } : Jvm.MethodName) ({ cls := "HouseFunctions$Table", name := "valueBefore", desc := "(II)J" } : Jvm.MethodName)),
  (Jvm.Cond.instanceMethod ({ cls := "java/lang/Object", name := "<init>", desc := "()V" } : Jvm.MethodName)),
  (Jvm.Cond.code ({ cls := "java/lang/Object", name := "<init>", desc := "()V" } : Jvm.MethodName) object_method_1_code (1 : Nat) (Option.none : Option Jvm.ClassFile.FieldType)),
  (Jvm.Cond.initialized "java/lang/Math"),
  (Jvm.Cond.static ({ cls := "java/lang/Math", name := "floorDiv", desc := "(JJ)J" } : Jvm.MethodName)),
  (Jvm.Cond.code ({ cls := "java/lang/Math", name := "floorDiv", desc := "(JJ)J" } : Jvm.MethodName) prog_10_method_49_code (6 : Nat) (Option.some Jvm.ClassFile.FieldType.long)),
  (Jvm.Cond.arrayClass Jvm.ClassFile.FieldType.int)]
set_option maxRecDepth 20000 in
theorem ag_T : al_T.all goodWord = true := by decide +kernel
set_option maxRecDepth 20000 in
theorem ui_T : ∀ w ∈ u_ws R_T F_T 3, w ∈ al_T := by decide +kernel
theorem sb_T_T : ∀ w ∈ al_T, w ∈ al_T := fun _ h => h
theorem wm_T_0 : (Jvm.Cond.initialized "HouseFunctions$Table") ∈ al_T := List.mem_of_getElem? (i := 0) rfl
theorem wm_T_1 : (Jvm.Cond.instantiable "HouseFunctions$Table" (3 : Nat)) ∈ al_T := List.mem_of_getElem? (i := 1) rfl
theorem wm_T_2 : (Jvm.Cond.instanceMethod ({ cls := "HouseFunctions$Table", name := "<init>", desc := "()V" } : Jvm.MethodName)) ∈ al_T := List.mem_of_getElem? (i := 2) rfl
theorem wm_T_3 : (Jvm.Cond.code ({ cls := "HouseFunctions$Table", name := "<init>", desc := "()V" } : Jvm.MethodName) prog_3_method_1_code (1 : Nat) (Option.none : Option Jvm.ClassFile.FieldType)) ∈ al_T := List.mem_of_getElem? (i := 3) rfl
theorem wm_T_4 : (Jvm.Cond.methodLink "HouseFunctions$Table" (3 : Nat) ({ cls := "java/lang/Object", name := "<init>", desc := "()V" } : Jvm.MethodName)) ∈ al_T := List.mem_of_getElem? (i := 4) rfl
theorem wm_T_5 : (Jvm.Cond.fieldLink "HouseFunctions$Table" (9 : Nat) "HouseFunctions$Table" "places" "[I") ∈ al_T := List.mem_of_getElem? (i := 5) rfl
theorem wm_T_6 : (Jvm.Cond.fieldLink "HouseFunctions$Table" (15 : Nat) "HouseFunctions$Table" "values" "[I") ∈ al_T := List.mem_of_getElem? (i := 6) rfl
theorem wm_T_7 : (Jvm.Cond.fieldLink "HouseFunctions$Table" (18 : Nat) "HouseFunctions$Table" "count" "I") ∈ al_T := List.mem_of_getElem? (i := 7) rfl
theorem wm_T_8 : (Jvm.Cond.laysFinal "HouseFunctions$Table" "HouseFunctions$Table" "places" "[I") ∈ al_T := List.mem_of_getElem? (i := 8) rfl
theorem wm_T_9 : (Jvm.Cond.laysFinal "HouseFunctions$Table" "HouseFunctions$Table" "values" "[I") ∈ al_T := List.mem_of_getElem? (i := 9) rfl
theorem wm_T_10 : (Jvm.Cond.lays "HouseFunctions$Table" "HouseFunctions$Table" "count" "I") ∈ al_T := List.mem_of_getElem? (i := 10) rfl
theorem wm_T_11 : (Jvm.Cond.instanceMethod ({ cls := "HouseFunctions$Table", name := "isFull", desc := "()Z" } : Jvm.MethodName)) ∈ al_T := List.mem_of_getElem? (i := 11) rfl
theorem wm_T_12 : (Jvm.Cond.selects "HouseFunctions$Table" ({ cls := "HouseFunctions$Table", name := "isFull", desc := "()Z" } : Jvm.MethodName) ({ cls := "HouseFunctions$Table", name := "isFull", desc := "()Z" } : Jvm.MethodName)) ∈ al_T := List.mem_of_getElem? (i := 12) rfl
theorem wm_T_13 : (Jvm.Cond.code ({ cls := "HouseFunctions$Table", name := "isFull", desc := "()Z" } : Jvm.MethodName) prog_3_method_2_code (1 : Nat) (Option.some Jvm.ClassFile.FieldType.boolean)) ∈ al_T := List.mem_of_getElem? (i := 13) rfl
theorem wm_T_14 : (Jvm.Cond.instanceMethod ({ cls := "HouseFunctions$Table", name := "append", desc := "(II)I" } : Jvm.MethodName)) ∈ al_T := List.mem_of_getElem? (i := 14) rfl
theorem wm_T_15 : (Jvm.Cond.selects "HouseFunctions$Table" ({ cls := "HouseFunctions$Table", name := "append", desc := "(II)I" } : Jvm.MethodName) ({ cls := "HouseFunctions$Table", name := "append", desc := "(II)I" } : Jvm.MethodName)) ∈ al_T := List.mem_of_getElem? (i := 15) rfl
theorem wm_T_16 : (Jvm.Cond.code ({ cls := "HouseFunctions$Table", name := "append", desc := "(II)I" } : Jvm.MethodName) prog_3_method_3_code (3 : Nat) (Option.some Jvm.ClassFile.FieldType.int)) ∈ al_T := List.mem_of_getElem? (i := 16) rfl
theorem wm_T_17 : (Jvm.Cond.methodLink "HouseFunctions$Table" (22 : Nat) ({ cls := "HouseFunctions$Table", name := "isFull", desc := "()Z" } : Jvm.MethodName)) ∈ al_T := List.mem_of_getElem? (i := 17) rfl
theorem wm_T_18 : (Jvm.Cond.instanceMethod ({ cls := "HouseFunctions$Table", name := "valueBy", desc := "(I)J" } : Jvm.MethodName)) ∈ al_T := List.mem_of_getElem? (i := 18) rfl
theorem wm_T_19 : (Jvm.Cond.selects "HouseFunctions$Table" ({ cls := "HouseFunctions$Table", name := "valueBy", desc := "(I)J" } : Jvm.MethodName) ({ cls := "HouseFunctions$Table", name := "valueBy", desc := "(I)J" } : Jvm.MethodName)) ∈ al_T := List.mem_of_getElem? (i := 19) rfl
theorem wm_T_20 : (Jvm.Cond.code ({ cls := "HouseFunctions$Table", name := "valueBy", desc := "(I)J" } : Jvm.MethodName) prog_3_method_4_code (3 : Nat) (Option.some Jvm.ClassFile.FieldType.long)) ∈ al_T := List.mem_of_getElem? (i := 20) rfl
theorem wm_T_21 : (Jvm.Cond.constantLong "HouseFunctions$Table" (26 : Nat) (-9223372036854775808 : Int64)) ∈ al_T := List.mem_of_getElem? (i := 21) rfl
theorem wm_T_22 : (Jvm.Cond.methodLink "HouseFunctions$Table" (28 : Nat) ({ cls := "HouseFunctions$Table", name := "valueBefore", desc := "(II)J" } : Jvm.MethodName)) ∈ al_T := List.mem_of_getElem? (i := 22) rfl
theorem wm_T_23 : (Jvm.Cond.instanceMethod ({ cls := "HouseFunctions$Table", name := "valueBefore", desc := "(II)J" } : Jvm.MethodName)) ∈ al_T := List.mem_of_getElem? (i := 23) rfl
theorem wm_T_24 : (Jvm.Cond.code ({ cls := "HouseFunctions$Table", name := "valueBefore", desc := "(II)J" } : Jvm.MethodName) prog_3_method_5_code (9 : Nat) (Option.some Jvm.ClassFile.FieldType.long)) ∈ al_T := List.mem_of_getElem? (i := 24) rfl
theorem wm_T_25 : (Jvm.Cond.methodLink "HouseFunctions$Table" (32 : Nat) ({ cls := "java/lang/Math", name := "floorDiv", desc := "(JJ)J" } : Jvm.MethodName)) ∈ al_T := List.mem_of_getElem? (i := 25) rfl
theorem wm_T_26 : (Jvm.Cond.selects "HouseFunctions$Table" ({ cls := "HouseFunctions$Table", name := "valueBefore", desc := "(II)J" } : Jvm.MethodName) ({ cls := "HouseFunctions$Table", name := "valueBefore", desc := "(II)J" } : Jvm.MethodName)) ∈ al_T := List.mem_of_getElem? (i := 26) rfl
theorem wm_T_27 : (Jvm.Cond.instanceMethod ({ cls := "java/lang/Object", name := "<init>", desc := "()V" } : Jvm.MethodName)) ∈ al_T := List.mem_of_getElem? (i := 27) rfl
theorem wm_T_28 : (Jvm.Cond.code ({ cls := "java/lang/Object", name := "<init>", desc := "()V" } : Jvm.MethodName) object_method_1_code (1 : Nat) (Option.none : Option Jvm.ClassFile.FieldType)) ∈ al_T := List.mem_of_getElem? (i := 28) rfl
theorem wm_T_29 : (Jvm.Cond.initialized "java/lang/Math") ∈ al_T := List.mem_of_getElem? (i := 29) rfl
theorem wm_T_30 : (Jvm.Cond.static ({ cls := "java/lang/Math", name := "floorDiv", desc := "(JJ)J" } : Jvm.MethodName)) ∈ al_T := List.mem_of_getElem? (i := 30) rfl
theorem wm_T_31 : (Jvm.Cond.code ({ cls := "java/lang/Math", name := "floorDiv", desc := "(JJ)J" } : Jvm.MethodName) prog_10_method_49_code (6 : Nat) (Option.some Jvm.ClassFile.FieldType.long)) ∈ al_T := List.mem_of_getElem? (i := 31) rfl
theorem wm_T_32 : (Jvm.Cond.arrayClass Jvm.ClassFile.FieldType.int) ∈ al_T := List.mem_of_getElem? (i := 32) rfl
def al_F : List Jvm.Cond := [(Jvm.Cond.initialized "HouseFunctions"),
  (Jvm.Cond.instantiable "HouseFunctions" (4 : Nat)),
  (Jvm.Cond.instanceMethod ({ cls := "HouseFunctions", name := "<init>", desc := "(J)V" } : Jvm.MethodName)),
  (Jvm.Cond.code ({ cls := "HouseFunctions", name := "<init>", desc := "(J)V" } : Jvm.MethodName) prog_1_method_1_code (4 : Nat) (Option.none : Option Jvm.ClassFile.FieldType)),
  (Jvm.Cond.methodLink "HouseFunctions" (1 : Nat) ({ cls := "java/lang/Object", name := "<init>", desc := "()V" } : Jvm.MethodName)),
  (Jvm.Cond.classLink "HouseFunctions" (13 : Nat) "HouseFunctions$Table"),
  (Jvm.Cond.classLink "HouseFunctions" (24 : Nat) "HouseFunctions$Reckoner"),
  (Jvm.Cond.fieldLink "HouseFunctions" (7 : Nat) "HouseFunctions" "seed" "J"),
  (Jvm.Cond.fieldLink "HouseFunctions" (15 : Nat) "HouseFunctions" "tables" "[LHouseFunctions$Table;"),
  (Jvm.Cond.fieldLink "HouseFunctions" (20 : Nat) "HouseFunctions" "tableCount" "I"),
  (Jvm.Cond.fieldLink "HouseFunctions" (27 : Nat) "HouseFunctions" "reckoner" "LHouseFunctions$Reckoner;"),
  (Jvm.Cond.laysFinal "HouseFunctions" "HouseFunctions" "seed" "J"),
  (Jvm.Cond.laysFinal "HouseFunctions" "HouseFunctions" "tables" "[LHouseFunctions$Table;"),
  (Jvm.Cond.lays "HouseFunctions" "HouseFunctions" "tableCount" "I"),
  (Jvm.Cond.laysFinal "HouseFunctions" "HouseFunctions" "reckoner" "LHouseFunctions$Reckoner;"),
  (Jvm.Cond.instanceMethod ({ cls := "HouseFunctions", name := "drawn", desc := "(JI)I" } : Jvm.MethodName)),
  (Jvm.Cond.selects "HouseFunctions" ({ cls := "HouseFunctions", name := "drawn", desc := "(JI)I" } : Jvm.MethodName) ({ cls := "HouseFunctions", name := "drawn", desc := "(JI)I" } : Jvm.MethodName)),
  (Jvm.Cond.code ({ cls := "HouseFunctions", name := "drawn", desc := "(JI)I" } : Jvm.MethodName) prog_1_method_13_code (6 : Nat) (Option.some Jvm.ClassFile.FieldType.int)),
  (Jvm.Cond.constantLong "HouseFunctions" (138 : Nat) (-7046029254386353131 : Int64)),
  (Jvm.Cond.constantLong "HouseFunctions" (140 : Nat) (-3335678366873096957 : Int64)),
  (Jvm.Cond.constantLong "HouseFunctions" (142 : Nat) (-4658895280553007687 : Int64)),
  (Jvm.Cond.constantLong "HouseFunctions" (144 : Nat) (-7723592293110705685 : Int64)),
  (Jvm.Cond.constantLong "HouseFunctions" (45 : Nat) (1000000000 : Int64)),
  (Jvm.Cond.instanceMethod ({ cls := "HouseFunctions", name := "power", desc := "(I)J" } : Jvm.MethodName)),
  (Jvm.Cond.selects "HouseFunctions" ({ cls := "HouseFunctions", name := "power", desc := "(I)J" } : Jvm.MethodName) ({ cls := "HouseFunctions", name := "power", desc := "(I)J" } : Jvm.MethodName)),
  (Jvm.Cond.code ({ cls := "HouseFunctions", name := "power", desc := "(I)J" } : Jvm.MethodName) prog_1_method_2_code (2 : Nat) (Option.some Jvm.ClassFile.FieldType.long)),
  (Jvm.Cond.constantLong "HouseFunctions" (31 : Nat) (-20000000 : Int64)),
  (Jvm.Cond.constantLong "HouseFunctions" (33 : Nat) (20000000 : Int64)),
  (Jvm.Cond.methodLink "HouseFunctions" (35 : Nat) ({ cls := "HouseFunctions", name := "demandWithin", desc := "(JJJ)V" } : Jvm.MethodName)),
  (Jvm.Cond.static ({ cls := "HouseFunctions", name := "demandWithin", desc := "(JJJ)V" } : Jvm.MethodName)),
  (Jvm.Cond.code ({ cls := "HouseFunctions", name := "demandWithin", desc := "(JJJ)V" } : Jvm.MethodName) prog_1_method_15_code (6 : Nat) (Option.none : Option Jvm.ClassFile.FieldType)),
  (Jvm.Cond.classLink "HouseFunctions" (146 : Nat) "java/lang/IllegalArgumentException"),
  (Jvm.Cond.methodLink "HouseFunctions" (150 : Nat) ({ cls := "java/lang/IllegalArgumentException", name := "<init>", desc := "(Ljava/lang/String;)V" } : Jvm.MethodName)),
  (Jvm.Cond.constantLong "HouseFunctions" (39 : Nat) (1000000 : Int64)),
  (Jvm.Cond.methodLink "HouseFunctions" (41 : Nat) ({ cls := "HouseFunctions$Reckoner", name := "raiseE", desc := "(JJ)V" } : Jvm.MethodName)),
  (Jvm.Cond.methodLink "HouseFunctions" (47 : Nat) ({ cls := "HouseFunctions$Reckoner", name := "floorTimes", desc := "(J)J" } : Jvm.MethodName)),
  (Jvm.Cond.instanceMethod ({ cls := "HouseFunctions", name := "logarithm", desc := "(J)J" } : Jvm.MethodName)),
  (Jvm.Cond.selects "HouseFunctions" ({ cls := "HouseFunctions", name := "logarithm", desc := "(J)J" } : Jvm.MethodName) ({ cls := "HouseFunctions", name := "logarithm", desc := "(J)J" } : Jvm.MethodName)),
  (Jvm.Cond.code ({ cls := "HouseFunctions", name := "logarithm", desc := "(J)J" } : Jvm.MethodName) prog_1_method_3_code (3 : Nat) (Option.some Jvm.ClassFile.FieldType.long)),
  (Jvm.Cond.constantLong "HouseFunctions" (51 : Nat) (-9223372036854775808 : Int64)),
  (Jvm.Cond.constantLong "HouseFunctions" (53 : Nat) (1000000000000 : Int64)),
  (Jvm.Cond.methodLink "HouseFunctions" (55 : Nat) ({ cls := "HouseFunctions$Reckoner", name := "takeLog", desc := "(JJ)V" } : Jvm.MethodName)),
  (Jvm.Cond.instanceMethod ({ cls := "HouseFunctions", name := "sine", desc := "(I)J" } : Jvm.MethodName)),
  (Jvm.Cond.selects "HouseFunctions" ({ cls := "HouseFunctions", name := "sine", desc := "(I)J" } : Jvm.MethodName) ({ cls := "HouseFunctions", name := "sine", desc := "(I)J" } : Jvm.MethodName)),
  (Jvm.Cond.code ({ cls := "HouseFunctions", name := "sine", desc := "(I)J" } : Jvm.MethodName) prog_1_method_4_code (2 : Nat) (Option.some Jvm.ClassFile.FieldType.long)),
  (Jvm.Cond.constantLong "HouseFunctions" (58 : Nat) (-100000000 : Int64)),
  (Jvm.Cond.constantLong "HouseFunctions" (60 : Nat) (100000000 : Int64)),
  (Jvm.Cond.methodLink "HouseFunctions" (62 : Nat) ({ cls := "java/lang/Math", name := "abs", desc := "(J)J" } : Jvm.MethodName)),
  (Jvm.Cond.methodLink "HouseFunctions" (67 : Nat) ({ cls := "HouseFunctions$Reckoner", name := "swing", desc := "(JI)V" } : Jvm.MethodName)),
  (Jvm.Cond.instanceMethod ({ cls := "HouseFunctions", name := "cosine", desc := "(I)J" } : Jvm.MethodName)),
  (Jvm.Cond.selects "HouseFunctions" ({ cls := "HouseFunctions", name := "cosine", desc := "(I)J" } : Jvm.MethodName) ({ cls := "HouseFunctions", name := "cosine", desc := "(I)J" } : Jvm.MethodName)),
  (Jvm.Cond.code ({ cls := "HouseFunctions", name := "cosine", desc := "(I)J" } : Jvm.MethodName) prog_1_method_5_code (2 : Nat) (Option.some Jvm.ClassFile.FieldType.long)),
  (Jvm.Cond.instanceMethod ({ cls := "HouseFunctions", name := "angle", desc := "(II)J" } : Jvm.MethodName)),
  (Jvm.Cond.selects "HouseFunctions" ({ cls := "HouseFunctions", name := "angle", desc := "(II)J" } : Jvm.MethodName) ({ cls := "HouseFunctions", name := "angle", desc := "(II)J" } : Jvm.MethodName)),
  (Jvm.Cond.code ({ cls := "HouseFunctions", name := "angle", desc := "(II)J" } : Jvm.MethodName) prog_1_method_6_code (3 : Nat) (Option.some Jvm.ClassFile.FieldType.long)),
  (Jvm.Cond.constantLong "HouseFunctions" (71 : Nat) (-1000000 : Int64)),
  (Jvm.Cond.methodLink "HouseFunctions" (73 : Nat) ({ cls := "HouseFunctions$Reckoner", name := "pointTo", desc := "(II)V" } : Jvm.MethodName)),
  (Jvm.Cond.instanceMethod ({ cls := "HouseFunctions", name := "root", desc := "(JI)J" } : Jvm.MethodName)),
  (Jvm.Cond.selects "HouseFunctions" ({ cls := "HouseFunctions", name := "root", desc := "(JI)J" } : Jvm.MethodName) ({ cls := "HouseFunctions", name := "root", desc := "(JI)J" } : Jvm.MethodName)),
  (Jvm.Cond.code ({ cls := "HouseFunctions", name := "root", desc := "(JI)J" } : Jvm.MethodName) prog_1_method_7_code (4 : Nat) (Option.some Jvm.ClassFile.FieldType.long)),
  (Jvm.Cond.constantLong "HouseFunctions" (77 : Nat) (2 : Int64)),
  (Jvm.Cond.constantLong "HouseFunctions" (79 : Nat) (5 : Int64)),
  (Jvm.Cond.methodLink "HouseFunctions" (81 : Nat) ({ cls := "HouseFunctions$Reckoner", name := "floorOfRoot", desc := "(JI)J" } : Jvm.MethodName)),
  (Jvm.Cond.instanceMethod ({ cls := "HouseFunctions", name := "damp", desc := "(II)J" } : Jvm.MethodName)),
  (Jvm.Cond.selects "HouseFunctions" ({ cls := "HouseFunctions", name := "damp", desc := "(II)J" } : Jvm.MethodName) ({ cls := "HouseFunctions", name := "damp", desc := "(II)J" } : Jvm.MethodName)),
  (Jvm.Cond.code ({ cls := "HouseFunctions", name := "damp", desc := "(II)J" } : Jvm.MethodName) prog_1_method_8_code (3 : Nat) (Option.some Jvm.ClassFile.FieldType.long)),
  (Jvm.Cond.constantLong "HouseFunctions" (85 : Nat) (-4000 : Int64)),
  (Jvm.Cond.constantLong "HouseFunctions" (87 : Nat) (10000 : Int64)),
  (Jvm.Cond.constantLong "HouseFunctions" (89 : Nat) (141 : Int64)),
  (Jvm.Cond.constantLong "HouseFunctions" (91 : Nat) (8 : Int64)),
  (Jvm.Cond.constantLong "HouseFunctions" (93 : Nat) (24304 : Int64)),
  (Jvm.Cond.constantLong "HouseFunctions" (95 : Nat) (61094 : Int64)),
  (Jvm.Cond.constantLong "HouseFunctions" (97 : Nat) (1000 : Int64)),
  (Jvm.Cond.instanceMethod ({ cls := "HouseFunctions", name := "dew", desc := "(I)J" } : Jvm.MethodName)),
  (Jvm.Cond.selects "HouseFunctions" ({ cls := "HouseFunctions", name := "dew", desc := "(I)J" } : Jvm.MethodName) ({ cls := "HouseFunctions", name := "dew", desc := "(I)J" } : Jvm.MethodName)),
  (Jvm.Cond.code ({ cls := "HouseFunctions", name := "dew", desc := "(I)J" } : Jvm.MethodName) prog_1_method_9_code (6 : Nat) (Option.some Jvm.ClassFile.FieldType.long)),
  (Jvm.Cond.constantLong "HouseFunctions" (99 : Nat) (610940 : Int64)),
  (Jvm.Cond.methodLink "HouseFunctions" (101 : Nat) ({ cls := "HouseFunctions$Reckoner", name := "keepLog", desc := "()V" } : Jvm.MethodName)),
  (Jvm.Cond.methodLink "HouseFunctions" (104 : Nat) ({ cls := "java/lang/Math", name := "floorDiv", desc := "(II)I" } : Jvm.MethodName)),
  (Jvm.Cond.methodLink "HouseFunctions" (108 : Nat) ({ cls := "HouseFunctions", name := "isBelowKeptLog", desc := "(I)Z" } : Jvm.MethodName)),
  (Jvm.Cond.instanceMethod ({ cls := "HouseFunctions", name := "isBelowKeptLog", desc := "(I)Z" } : Jvm.MethodName)),
  (Jvm.Cond.code ({ cls := "HouseFunctions", name := "isBelowKeptLog", desc := "(I)Z" } : Jvm.MethodName) prog_1_method_17_code (2 : Nat) (Option.some Jvm.ClassFile.FieldType.boolean)),
  (Jvm.Cond.methodLink "HouseFunctions" (153 : Nat) ({ cls := "HouseFunctions$Reckoner", name := "isRatioBelowKept", desc := "(JJ)Z" } : Jvm.MethodName)),
  (Jvm.Cond.instanceMethod ({ cls := "HouseFunctions", name := "table", desc := "()I" } : Jvm.MethodName)),
  (Jvm.Cond.selects "HouseFunctions" ({ cls := "HouseFunctions", name := "table", desc := "()I" } : Jvm.MethodName) ({ cls := "HouseFunctions", name := "table", desc := "()I" } : Jvm.MethodName)),
  (Jvm.Cond.code ({ cls := "HouseFunctions", name := "table", desc := "()I" } : Jvm.MethodName) prog_1_method_10_code (1 : Nat) (Option.some Jvm.ClassFile.FieldType.int)),
  (Jvm.Cond.classLink "HouseFunctions" (112 : Nat) "java/lang/IllegalStateException"),
  (Jvm.Cond.methodLink "HouseFunctions" (116 : Nat) ({ cls := "java/lang/IllegalStateException", name := "<init>", desc := "(Ljava/lang/String;)V" } : Jvm.MethodName)),
  (Jvm.Cond.instanceMethod ({ cls := "HouseFunctions", name := "row", desc := "(III)I" } : Jvm.MethodName)),
  (Jvm.Cond.selects "HouseFunctions" ({ cls := "HouseFunctions", name := "row", desc := "(III)I" } : Jvm.MethodName) ({ cls := "HouseFunctions", name := "row", desc := "(III)I" } : Jvm.MethodName)),
  (Jvm.Cond.code ({ cls := "HouseFunctions", name := "row", desc := "(III)I" } : Jvm.MethodName) prog_1_method_11_code (5 : Nat) (Option.some Jvm.ClassFile.FieldType.int)),
  (Jvm.Cond.methodLink "HouseFunctions" (119 : Nat) ({ cls := "HouseFunctions", name := "tableOf", desc := "(I)LHouseFunctions$Table;" } : Jvm.MethodName)),
  (Jvm.Cond.instanceMethod ({ cls := "HouseFunctions", name := "tableOf", desc := "(I)LHouseFunctions$Table;" } : Jvm.MethodName)),
  (Jvm.Cond.code ({ cls := "HouseFunctions", name := "tableOf", desc := "(I)LHouseFunctions$Table;" } : Jvm.MethodName) prog_1_method_16_code (2 : Nat) (Option.some (Jvm.ClassFile.FieldType.object "HouseFunctions$Table"))),
  (Jvm.Cond.constantLong "HouseFunctions" (123 : Nat) (-1000000000 : Int64)),
  (Jvm.Cond.methodLink "HouseFunctions" (125 : Nat) ({ cls := "HouseFunctions$Table", name := "isFull", desc := "()Z" } : Jvm.MethodName)),
  (Jvm.Cond.methodLink "HouseFunctions" (131 : Nat) ({ cls := "HouseFunctions$Table", name := "append", desc := "(II)I" } : Jvm.MethodName)),
  (Jvm.Cond.instanceMethod ({ cls := "HouseFunctions", name := "at", desc := "(II)J" } : Jvm.MethodName)),
  (Jvm.Cond.selects "HouseFunctions" ({ cls := "HouseFunctions", name := "at", desc := "(II)J" } : Jvm.MethodName) ({ cls := "HouseFunctions", name := "at", desc := "(II)J" } : Jvm.MethodName)),
  (Jvm.Cond.code ({ cls := "HouseFunctions", name := "at", desc := "(II)J" } : Jvm.MethodName) prog_1_method_12_code (3 : Nat) (Option.some Jvm.ClassFile.FieldType.long)),
  (Jvm.Cond.methodLink "HouseFunctions" (134 : Nat) ({ cls := "HouseFunctions$Table", name := "valueBy", desc := "(I)J" } : Jvm.MethodName)),
  (Jvm.Cond.instanceMethod ({ cls := "HouseFunctions", name := "join", desc := "(III)J" } : Jvm.MethodName)),
  (Jvm.Cond.selects "HouseFunctions" ({ cls := "HouseFunctions", name := "join", desc := "(III)J" } : Jvm.MethodName) ({ cls := "HouseFunctions", name := "join", desc := "(III)J" } : Jvm.MethodName)),
  (Jvm.Cond.code ({ cls := "HouseFunctions", name := "join", desc := "(III)J" } : Jvm.MethodName) prog_1_method_14_code (10 : Nat) (Option.some Jvm.ClassFile.FieldType.long)),
  (Jvm.Cond.selects "HouseFunctions" ({ cls := "HouseFunctions", name := "isBelowKeptLog", desc := "(I)Z" } : Jvm.MethodName) ({ cls := "HouseFunctions", name := "isBelowKeptLog", desc := "(I)Z" } : Jvm.MethodName)),
  (Jvm.Cond.selects "HouseFunctions" ({ cls := "HouseFunctions", name := "tableOf", desc := "(I)LHouseFunctions$Table;" } : Jvm.MethodName) ({ cls := "HouseFunctions", name := "tableOf", desc := "(I)LHouseFunctions$Table;" } : Jvm.MethodName)),
  (Jvm.Cond.instanceMethod ({ cls := "java/lang/Object", name := "<init>", desc := "()V" } : Jvm.MethodName)),
  (Jvm.Cond.code ({ cls := "java/lang/Object", name := "<init>", desc := "()V" } : Jvm.MethodName) object_method_1_code (1 : Nat) (Option.none : Option Jvm.ClassFile.FieldType)),
  (Jvm.Cond.initialized "java/lang/Math"),
  (Jvm.Cond.static ({ cls := "java/lang/Math", name := "abs", desc := "(J)J" } : Jvm.MethodName)),
  (Jvm.Cond.code ({ cls := "java/lang/Math", name := "abs", desc := "(J)J" } : Jvm.MethodName) prog_10_method_61_code (2 : Nat) (Option.some Jvm.ClassFile.FieldType.long)),
  (Jvm.Cond.static ({ cls := "java/lang/Math", name := "floorDiv", desc := "(II)I" } : Jvm.MethodName)),
  (Jvm.Cond.code ({ cls := "java/lang/Math", name := "floorDiv", desc := "(II)I" } : Jvm.MethodName) prog_10_method_47_code (3 : Nat) (Option.some Jvm.ClassFile.FieldType.int)),
  (Jvm.Cond.initialized "java/lang/IllegalArgumentException"),
  (Jvm.Cond.initialized "java/lang/IllegalStateException")] ++ (al_K ++ (al_T ++ ((vx_atS R_F 150 "java/lang/IllegalArgumentException" ["java/lang/RuntimeException", "java/lang/Exception"]).filter goodWord ++ (vx_atS R_F 116 "java/lang/IllegalStateException" ["java/lang/RuntimeException", "java/lang/Exception"]).filter goodWord)))
set_option maxRecDepth 20000 in
theorem ag_F : al_F.all goodWord = true := by decide +kernel
set_option maxRecDepth 20000 in
theorem ui_F : ∀ w ∈ u_ws R_F F_F 4, w ∈ al_F := by decide +kernel
theorem sb_F_K : ∀ w ∈ al_K, w ∈ al_F := fun w h => List.mem_append_right _ (List.mem_append_left _ h)
theorem sb_F_T : ∀ w ∈ al_T, w ∈ al_F := fun w h => List.mem_append_right _ (List.mem_append_right _ (List.mem_append_left _ h))
theorem sx_I : ∀ w ∈ (vx_atS R_F 150 "java/lang/IllegalArgumentException" ["java/lang/RuntimeException", "java/lang/Exception"]).filter goodWord, w ∈ al_F := fun w h => List.mem_append_right _ (List.mem_append_right _ (List.mem_append_right _ (List.mem_append_left _ h)))
theorem sx_S : ∀ w ∈ (vx_atS R_F 116 "java/lang/IllegalStateException" ["java/lang/RuntimeException", "java/lang/Exception"]).filter goodWord, w ∈ al_F := fun w h => List.mem_append_right _ (List.mem_append_right _ (List.mem_append_right _ (List.mem_append_right _ h)))
theorem sb_F_F : ∀ w ∈ al_F, w ∈ al_F := fun _ h => h
theorem wm_F_0 : (Jvm.Cond.initialized "HouseFunctions") ∈ al_F := List.mem_of_getElem? (i := 0) rfl
theorem wm_F_1 : (Jvm.Cond.instantiable "HouseFunctions" (4 : Nat)) ∈ al_F := List.mem_of_getElem? (i := 1) rfl
theorem wm_F_2 : (Jvm.Cond.instanceMethod ({ cls := "HouseFunctions", name := "<init>", desc := "(J)V" } : Jvm.MethodName)) ∈ al_F := List.mem_of_getElem? (i := 2) rfl
theorem wm_F_3 : (Jvm.Cond.code ({ cls := "HouseFunctions", name := "<init>", desc := "(J)V" } : Jvm.MethodName) prog_1_method_1_code (4 : Nat) (Option.none : Option Jvm.ClassFile.FieldType)) ∈ al_F := List.mem_of_getElem? (i := 3) rfl
theorem wm_F_4 : (Jvm.Cond.methodLink "HouseFunctions" (1 : Nat) ({ cls := "java/lang/Object", name := "<init>", desc := "()V" } : Jvm.MethodName)) ∈ al_F := List.mem_of_getElem? (i := 4) rfl
theorem wm_F_5 : (Jvm.Cond.classLink "HouseFunctions" (13 : Nat) "HouseFunctions$Table") ∈ al_F := List.mem_of_getElem? (i := 5) rfl
theorem wm_F_6 : (Jvm.Cond.classLink "HouseFunctions" (24 : Nat) "HouseFunctions$Reckoner") ∈ al_F := List.mem_of_getElem? (i := 6) rfl
theorem wm_F_7 : (Jvm.Cond.fieldLink "HouseFunctions" (7 : Nat) "HouseFunctions" "seed" "J") ∈ al_F := List.mem_of_getElem? (i := 7) rfl
theorem wm_F_8 : (Jvm.Cond.fieldLink "HouseFunctions" (15 : Nat) "HouseFunctions" "tables" "[LHouseFunctions$Table;") ∈ al_F := List.mem_of_getElem? (i := 8) rfl
theorem wm_F_9 : (Jvm.Cond.fieldLink "HouseFunctions" (20 : Nat) "HouseFunctions" "tableCount" "I") ∈ al_F := List.mem_of_getElem? (i := 9) rfl
theorem wm_F_10 : (Jvm.Cond.fieldLink "HouseFunctions" (27 : Nat) "HouseFunctions" "reckoner" "LHouseFunctions$Reckoner;") ∈ al_F := List.mem_of_getElem? (i := 10) rfl
theorem wm_F_11 : (Jvm.Cond.laysFinal "HouseFunctions" "HouseFunctions" "seed" "J") ∈ al_F := List.mem_of_getElem? (i := 11) rfl
theorem wm_F_12 : (Jvm.Cond.laysFinal "HouseFunctions" "HouseFunctions" "tables" "[LHouseFunctions$Table;") ∈ al_F := List.mem_of_getElem? (i := 12) rfl
theorem wm_F_13 : (Jvm.Cond.lays "HouseFunctions" "HouseFunctions" "tableCount" "I") ∈ al_F := List.mem_of_getElem? (i := 13) rfl
theorem wm_F_14 : (Jvm.Cond.laysFinal "HouseFunctions" "HouseFunctions" "reckoner" "LHouseFunctions$Reckoner;") ∈ al_F := List.mem_of_getElem? (i := 14) rfl
theorem wm_F_15 : (Jvm.Cond.instanceMethod ({ cls := "HouseFunctions", name := "drawn", desc := "(JI)I" } : Jvm.MethodName)) ∈ al_F := List.mem_of_getElem? (i := 15) rfl
theorem wm_F_16 : (Jvm.Cond.selects "HouseFunctions" ({ cls := "HouseFunctions", name := "drawn", desc := "(JI)I" } : Jvm.MethodName) ({ cls := "HouseFunctions", name := "drawn", desc := "(JI)I" } : Jvm.MethodName)) ∈ al_F := List.mem_of_getElem? (i := 16) rfl
theorem wm_F_17 : (Jvm.Cond.code ({ cls := "HouseFunctions", name := "drawn", desc := "(JI)I" } : Jvm.MethodName) prog_1_method_13_code (6 : Nat) (Option.some Jvm.ClassFile.FieldType.int)) ∈ al_F := List.mem_of_getElem? (i := 17) rfl
theorem wm_F_18 : (Jvm.Cond.constantLong "HouseFunctions" (138 : Nat) (-7046029254386353131 : Int64)) ∈ al_F := List.mem_of_getElem? (i := 18) rfl
theorem wm_F_19 : (Jvm.Cond.constantLong "HouseFunctions" (140 : Nat) (-3335678366873096957 : Int64)) ∈ al_F := List.mem_of_getElem? (i := 19) rfl
theorem wm_F_20 : (Jvm.Cond.constantLong "HouseFunctions" (142 : Nat) (-4658895280553007687 : Int64)) ∈ al_F := List.mem_of_getElem? (i := 20) rfl
theorem wm_F_21 : (Jvm.Cond.constantLong "HouseFunctions" (144 : Nat) (-7723592293110705685 : Int64)) ∈ al_F := List.mem_of_getElem? (i := 21) rfl
theorem wm_F_22 : (Jvm.Cond.constantLong "HouseFunctions" (45 : Nat) (1000000000 : Int64)) ∈ al_F := List.mem_of_getElem? (i := 22) rfl
theorem wm_F_23 : (Jvm.Cond.instanceMethod ({ cls := "HouseFunctions", name := "power", desc := "(I)J" } : Jvm.MethodName)) ∈ al_F := List.mem_of_getElem? (i := 23) rfl
theorem wm_F_24 : (Jvm.Cond.selects "HouseFunctions" ({ cls := "HouseFunctions", name := "power", desc := "(I)J" } : Jvm.MethodName) ({ cls := "HouseFunctions", name := "power", desc := "(I)J" } : Jvm.MethodName)) ∈ al_F := List.mem_of_getElem? (i := 24) rfl
theorem wm_F_25 : (Jvm.Cond.code ({ cls := "HouseFunctions", name := "power", desc := "(I)J" } : Jvm.MethodName) prog_1_method_2_code (2 : Nat) (Option.some Jvm.ClassFile.FieldType.long)) ∈ al_F := List.mem_of_getElem? (i := 25) rfl
theorem wm_F_26 : (Jvm.Cond.constantLong "HouseFunctions" (31 : Nat) (-20000000 : Int64)) ∈ al_F := List.mem_of_getElem? (i := 26) rfl
theorem wm_F_27 : (Jvm.Cond.constantLong "HouseFunctions" (33 : Nat) (20000000 : Int64)) ∈ al_F := List.mem_of_getElem? (i := 27) rfl
theorem wm_F_28 : (Jvm.Cond.methodLink "HouseFunctions" (35 : Nat) ({ cls := "HouseFunctions", name := "demandWithin", desc := "(JJJ)V" } : Jvm.MethodName)) ∈ al_F := List.mem_of_getElem? (i := 28) rfl
theorem wm_F_29 : (Jvm.Cond.static ({ cls := "HouseFunctions", name := "demandWithin", desc := "(JJJ)V" } : Jvm.MethodName)) ∈ al_F := List.mem_of_getElem? (i := 29) rfl
theorem wm_F_30 : (Jvm.Cond.code ({ cls := "HouseFunctions", name := "demandWithin", desc := "(JJJ)V" } : Jvm.MethodName) prog_1_method_15_code (6 : Nat) (Option.none : Option Jvm.ClassFile.FieldType)) ∈ al_F := List.mem_of_getElem? (i := 30) rfl
theorem wm_F_31 : (Jvm.Cond.classLink "HouseFunctions" (146 : Nat) "java/lang/IllegalArgumentException") ∈ al_F := List.mem_of_getElem? (i := 31) rfl
theorem wm_F_32 : (Jvm.Cond.methodLink "HouseFunctions" (150 : Nat) ({ cls := "java/lang/IllegalArgumentException", name := "<init>", desc := "(Ljava/lang/String;)V" } : Jvm.MethodName)) ∈ al_F := List.mem_of_getElem? (i := 32) rfl
theorem wm_F_33 : (Jvm.Cond.constantLong "HouseFunctions" (39 : Nat) (1000000 : Int64)) ∈ al_F := List.mem_of_getElem? (i := 33) rfl
theorem wm_F_34 : (Jvm.Cond.methodLink "HouseFunctions" (41 : Nat) ({ cls := "HouseFunctions$Reckoner", name := "raiseE", desc := "(JJ)V" } : Jvm.MethodName)) ∈ al_F := List.mem_of_getElem? (i := 34) rfl
theorem wm_F_35 : (Jvm.Cond.methodLink "HouseFunctions" (47 : Nat) ({ cls := "HouseFunctions$Reckoner", name := "floorTimes", desc := "(J)J" } : Jvm.MethodName)) ∈ al_F := List.mem_of_getElem? (i := 35) rfl
theorem wm_F_36 : (Jvm.Cond.instanceMethod ({ cls := "HouseFunctions", name := "logarithm", desc := "(J)J" } : Jvm.MethodName)) ∈ al_F := List.mem_of_getElem? (i := 36) rfl
theorem wm_F_37 : (Jvm.Cond.selects "HouseFunctions" ({ cls := "HouseFunctions", name := "logarithm", desc := "(J)J" } : Jvm.MethodName) ({ cls := "HouseFunctions", name := "logarithm", desc := "(J)J" } : Jvm.MethodName)) ∈ al_F := List.mem_of_getElem? (i := 37) rfl
theorem wm_F_38 : (Jvm.Cond.code ({ cls := "HouseFunctions", name := "logarithm", desc := "(J)J" } : Jvm.MethodName) prog_1_method_3_code (3 : Nat) (Option.some Jvm.ClassFile.FieldType.long)) ∈ al_F := List.mem_of_getElem? (i := 38) rfl
theorem wm_F_39 : (Jvm.Cond.constantLong "HouseFunctions" (51 : Nat) (-9223372036854775808 : Int64)) ∈ al_F := List.mem_of_getElem? (i := 39) rfl
theorem wm_F_40 : (Jvm.Cond.constantLong "HouseFunctions" (53 : Nat) (1000000000000 : Int64)) ∈ al_F := List.mem_of_getElem? (i := 40) rfl
theorem wm_F_41 : (Jvm.Cond.methodLink "HouseFunctions" (55 : Nat) ({ cls := "HouseFunctions$Reckoner", name := "takeLog", desc := "(JJ)V" } : Jvm.MethodName)) ∈ al_F := List.mem_of_getElem? (i := 41) rfl
theorem wm_F_42 : (Jvm.Cond.instanceMethod ({ cls := "HouseFunctions", name := "sine", desc := "(I)J" } : Jvm.MethodName)) ∈ al_F := List.mem_of_getElem? (i := 42) rfl
theorem wm_F_43 : (Jvm.Cond.selects "HouseFunctions" ({ cls := "HouseFunctions", name := "sine", desc := "(I)J" } : Jvm.MethodName) ({ cls := "HouseFunctions", name := "sine", desc := "(I)J" } : Jvm.MethodName)) ∈ al_F := List.mem_of_getElem? (i := 43) rfl
theorem wm_F_44 : (Jvm.Cond.code ({ cls := "HouseFunctions", name := "sine", desc := "(I)J" } : Jvm.MethodName) prog_1_method_4_code (2 : Nat) (Option.some Jvm.ClassFile.FieldType.long)) ∈ al_F := List.mem_of_getElem? (i := 44) rfl
theorem wm_F_45 : (Jvm.Cond.constantLong "HouseFunctions" (58 : Nat) (-100000000 : Int64)) ∈ al_F := List.mem_of_getElem? (i := 45) rfl
theorem wm_F_46 : (Jvm.Cond.constantLong "HouseFunctions" (60 : Nat) (100000000 : Int64)) ∈ al_F := List.mem_of_getElem? (i := 46) rfl
theorem wm_F_47 : (Jvm.Cond.methodLink "HouseFunctions" (62 : Nat) ({ cls := "java/lang/Math", name := "abs", desc := "(J)J" } : Jvm.MethodName)) ∈ al_F := List.mem_of_getElem? (i := 47) rfl
theorem wm_F_48 : (Jvm.Cond.methodLink "HouseFunctions" (67 : Nat) ({ cls := "HouseFunctions$Reckoner", name := "swing", desc := "(JI)V" } : Jvm.MethodName)) ∈ al_F := List.mem_of_getElem? (i := 48) rfl
theorem wm_F_49 : (Jvm.Cond.instanceMethod ({ cls := "HouseFunctions", name := "cosine", desc := "(I)J" } : Jvm.MethodName)) ∈ al_F := List.mem_of_getElem? (i := 49) rfl
theorem wm_F_50 : (Jvm.Cond.selects "HouseFunctions" ({ cls := "HouseFunctions", name := "cosine", desc := "(I)J" } : Jvm.MethodName) ({ cls := "HouseFunctions", name := "cosine", desc := "(I)J" } : Jvm.MethodName)) ∈ al_F := List.mem_of_getElem? (i := 50) rfl
theorem wm_F_51 : (Jvm.Cond.code ({ cls := "HouseFunctions", name := "cosine", desc := "(I)J" } : Jvm.MethodName) prog_1_method_5_code (2 : Nat) (Option.some Jvm.ClassFile.FieldType.long)) ∈ al_F := List.mem_of_getElem? (i := 51) rfl
theorem wm_F_52 : (Jvm.Cond.instanceMethod ({ cls := "HouseFunctions", name := "angle", desc := "(II)J" } : Jvm.MethodName)) ∈ al_F := List.mem_of_getElem? (i := 52) rfl
theorem wm_F_53 : (Jvm.Cond.selects "HouseFunctions" ({ cls := "HouseFunctions", name := "angle", desc := "(II)J" } : Jvm.MethodName) ({ cls := "HouseFunctions", name := "angle", desc := "(II)J" } : Jvm.MethodName)) ∈ al_F := List.mem_of_getElem? (i := 53) rfl
theorem wm_F_54 : (Jvm.Cond.code ({ cls := "HouseFunctions", name := "angle", desc := "(II)J" } : Jvm.MethodName) prog_1_method_6_code (3 : Nat) (Option.some Jvm.ClassFile.FieldType.long)) ∈ al_F := List.mem_of_getElem? (i := 54) rfl
theorem wm_F_55 : (Jvm.Cond.constantLong "HouseFunctions" (71 : Nat) (-1000000 : Int64)) ∈ al_F := List.mem_of_getElem? (i := 55) rfl
theorem wm_F_56 : (Jvm.Cond.methodLink "HouseFunctions" (73 : Nat) ({ cls := "HouseFunctions$Reckoner", name := "pointTo", desc := "(II)V" } : Jvm.MethodName)) ∈ al_F := List.mem_of_getElem? (i := 56) rfl
theorem wm_F_57 : (Jvm.Cond.instanceMethod ({ cls := "HouseFunctions", name := "root", desc := "(JI)J" } : Jvm.MethodName)) ∈ al_F := List.mem_of_getElem? (i := 57) rfl
theorem wm_F_58 : (Jvm.Cond.selects "HouseFunctions" ({ cls := "HouseFunctions", name := "root", desc := "(JI)J" } : Jvm.MethodName) ({ cls := "HouseFunctions", name := "root", desc := "(JI)J" } : Jvm.MethodName)) ∈ al_F := List.mem_of_getElem? (i := 58) rfl
theorem wm_F_59 : (Jvm.Cond.code ({ cls := "HouseFunctions", name := "root", desc := "(JI)J" } : Jvm.MethodName) prog_1_method_7_code (4 : Nat) (Option.some Jvm.ClassFile.FieldType.long)) ∈ al_F := List.mem_of_getElem? (i := 59) rfl
theorem wm_F_60 : (Jvm.Cond.constantLong "HouseFunctions" (77 : Nat) (2 : Int64)) ∈ al_F := List.mem_of_getElem? (i := 60) rfl
theorem wm_F_61 : (Jvm.Cond.constantLong "HouseFunctions" (79 : Nat) (5 : Int64)) ∈ al_F := List.mem_of_getElem? (i := 61) rfl
theorem wm_F_62 : (Jvm.Cond.methodLink "HouseFunctions" (81 : Nat) ({ cls := "HouseFunctions$Reckoner", name := "floorOfRoot", desc := "(JI)J" } : Jvm.MethodName)) ∈ al_F := List.mem_of_getElem? (i := 62) rfl
theorem wm_F_63 : (Jvm.Cond.instanceMethod ({ cls := "HouseFunctions", name := "damp", desc := "(II)J" } : Jvm.MethodName)) ∈ al_F := List.mem_of_getElem? (i := 63) rfl
theorem wm_F_64 : (Jvm.Cond.selects "HouseFunctions" ({ cls := "HouseFunctions", name := "damp", desc := "(II)J" } : Jvm.MethodName) ({ cls := "HouseFunctions", name := "damp", desc := "(II)J" } : Jvm.MethodName)) ∈ al_F := List.mem_of_getElem? (i := 64) rfl
theorem wm_F_65 : (Jvm.Cond.code ({ cls := "HouseFunctions", name := "damp", desc := "(II)J" } : Jvm.MethodName) prog_1_method_8_code (3 : Nat) (Option.some Jvm.ClassFile.FieldType.long)) ∈ al_F := List.mem_of_getElem? (i := 65) rfl
theorem wm_F_66 : (Jvm.Cond.constantLong "HouseFunctions" (85 : Nat) (-4000 : Int64)) ∈ al_F := List.mem_of_getElem? (i := 66) rfl
theorem wm_F_67 : (Jvm.Cond.constantLong "HouseFunctions" (87 : Nat) (10000 : Int64)) ∈ al_F := List.mem_of_getElem? (i := 67) rfl
theorem wm_F_68 : (Jvm.Cond.constantLong "HouseFunctions" (89 : Nat) (141 : Int64)) ∈ al_F := List.mem_of_getElem? (i := 68) rfl
theorem wm_F_69 : (Jvm.Cond.constantLong "HouseFunctions" (91 : Nat) (8 : Int64)) ∈ al_F := List.mem_of_getElem? (i := 69) rfl
theorem wm_F_70 : (Jvm.Cond.constantLong "HouseFunctions" (93 : Nat) (24304 : Int64)) ∈ al_F := List.mem_of_getElem? (i := 70) rfl
theorem wm_F_71 : (Jvm.Cond.constantLong "HouseFunctions" (95 : Nat) (61094 : Int64)) ∈ al_F := List.mem_of_getElem? (i := 71) rfl
theorem wm_F_72 : (Jvm.Cond.constantLong "HouseFunctions" (97 : Nat) (1000 : Int64)) ∈ al_F := List.mem_of_getElem? (i := 72) rfl
theorem wm_F_73 : (Jvm.Cond.instanceMethod ({ cls := "HouseFunctions", name := "dew", desc := "(I)J" } : Jvm.MethodName)) ∈ al_F := List.mem_of_getElem? (i := 73) rfl
theorem wm_F_74 : (Jvm.Cond.selects "HouseFunctions" ({ cls := "HouseFunctions", name := "dew", desc := "(I)J" } : Jvm.MethodName) ({ cls := "HouseFunctions", name := "dew", desc := "(I)J" } : Jvm.MethodName)) ∈ al_F := List.mem_of_getElem? (i := 74) rfl
theorem wm_F_75 : (Jvm.Cond.code ({ cls := "HouseFunctions", name := "dew", desc := "(I)J" } : Jvm.MethodName) prog_1_method_9_code (6 : Nat) (Option.some Jvm.ClassFile.FieldType.long)) ∈ al_F := List.mem_of_getElem? (i := 75) rfl
theorem wm_F_76 : (Jvm.Cond.constantLong "HouseFunctions" (99 : Nat) (610940 : Int64)) ∈ al_F := List.mem_of_getElem? (i := 76) rfl
theorem wm_F_77 : (Jvm.Cond.methodLink "HouseFunctions" (101 : Nat) ({ cls := "HouseFunctions$Reckoner", name := "keepLog", desc := "()V" } : Jvm.MethodName)) ∈ al_F := List.mem_of_getElem? (i := 77) rfl
theorem wm_F_78 : (Jvm.Cond.methodLink "HouseFunctions" (104 : Nat) ({ cls := "java/lang/Math", name := "floorDiv", desc := "(II)I" } : Jvm.MethodName)) ∈ al_F := List.mem_of_getElem? (i := 78) rfl
theorem wm_F_79 : (Jvm.Cond.methodLink "HouseFunctions" (108 : Nat) ({ cls := "HouseFunctions", name := "isBelowKeptLog", desc := "(I)Z" } : Jvm.MethodName)) ∈ al_F := List.mem_of_getElem? (i := 79) rfl
theorem wm_F_80 : (Jvm.Cond.instanceMethod ({ cls := "HouseFunctions", name := "isBelowKeptLog", desc := "(I)Z" } : Jvm.MethodName)) ∈ al_F := List.mem_of_getElem? (i := 80) rfl
theorem wm_F_81 : (Jvm.Cond.code ({ cls := "HouseFunctions", name := "isBelowKeptLog", desc := "(I)Z" } : Jvm.MethodName) prog_1_method_17_code (2 : Nat) (Option.some Jvm.ClassFile.FieldType.boolean)) ∈ al_F := List.mem_of_getElem? (i := 81) rfl
theorem wm_F_82 : (Jvm.Cond.methodLink "HouseFunctions" (153 : Nat) ({ cls := "HouseFunctions$Reckoner", name := "isRatioBelowKept", desc := "(JJ)Z" } : Jvm.MethodName)) ∈ al_F := List.mem_of_getElem? (i := 82) rfl
theorem wm_F_83 : (Jvm.Cond.instanceMethod ({ cls := "HouseFunctions", name := "table", desc := "()I" } : Jvm.MethodName)) ∈ al_F := List.mem_of_getElem? (i := 83) rfl
theorem wm_F_84 : (Jvm.Cond.selects "HouseFunctions" ({ cls := "HouseFunctions", name := "table", desc := "()I" } : Jvm.MethodName) ({ cls := "HouseFunctions", name := "table", desc := "()I" } : Jvm.MethodName)) ∈ al_F := List.mem_of_getElem? (i := 84) rfl
theorem wm_F_85 : (Jvm.Cond.code ({ cls := "HouseFunctions", name := "table", desc := "()I" } : Jvm.MethodName) prog_1_method_10_code (1 : Nat) (Option.some Jvm.ClassFile.FieldType.int)) ∈ al_F := List.mem_of_getElem? (i := 85) rfl
theorem wm_F_86 : (Jvm.Cond.classLink "HouseFunctions" (112 : Nat) "java/lang/IllegalStateException") ∈ al_F := List.mem_of_getElem? (i := 86) rfl
theorem wm_F_87 : (Jvm.Cond.methodLink "HouseFunctions" (116 : Nat) ({ cls := "java/lang/IllegalStateException", name := "<init>", desc := "(Ljava/lang/String;)V" } : Jvm.MethodName)) ∈ al_F := List.mem_of_getElem? (i := 87) rfl
theorem wm_F_88 : (Jvm.Cond.instanceMethod ({ cls := "HouseFunctions", name := "row", desc := "(III)I" } : Jvm.MethodName)) ∈ al_F := List.mem_of_getElem? (i := 88) rfl
theorem wm_F_89 : (Jvm.Cond.selects "HouseFunctions" ({ cls := "HouseFunctions", name := "row", desc := "(III)I" } : Jvm.MethodName) ({ cls := "HouseFunctions", name := "row", desc := "(III)I" } : Jvm.MethodName)) ∈ al_F := List.mem_of_getElem? (i := 89) rfl
theorem wm_F_90 : (Jvm.Cond.code ({ cls := "HouseFunctions", name := "row", desc := "(III)I" } : Jvm.MethodName) prog_1_method_11_code (5 : Nat) (Option.some Jvm.ClassFile.FieldType.int)) ∈ al_F := List.mem_of_getElem? (i := 90) rfl
theorem wm_F_91 : (Jvm.Cond.methodLink "HouseFunctions" (119 : Nat) ({ cls := "HouseFunctions", name := "tableOf", desc := "(I)LHouseFunctions$Table;" } : Jvm.MethodName)) ∈ al_F := List.mem_of_getElem? (i := 91) rfl
theorem wm_F_92 : (Jvm.Cond.instanceMethod ({ cls := "HouseFunctions", name := "tableOf", desc := "(I)LHouseFunctions$Table;" } : Jvm.MethodName)) ∈ al_F := List.mem_of_getElem? (i := 92) rfl
theorem wm_F_93 : (Jvm.Cond.code ({ cls := "HouseFunctions", name := "tableOf", desc := "(I)LHouseFunctions$Table;" } : Jvm.MethodName) prog_1_method_16_code (2 : Nat) (Option.some (Jvm.ClassFile.FieldType.object "HouseFunctions$Table"))) ∈ al_F := List.mem_of_getElem? (i := 93) rfl
theorem wm_F_94 : (Jvm.Cond.constantLong "HouseFunctions" (123 : Nat) (-1000000000 : Int64)) ∈ al_F := List.mem_of_getElem? (i := 94) rfl
theorem wm_F_95 : (Jvm.Cond.methodLink "HouseFunctions" (125 : Nat) ({ cls := "HouseFunctions$Table", name := "isFull", desc := "()Z" } : Jvm.MethodName)) ∈ al_F := List.mem_of_getElem? (i := 95) rfl
theorem wm_F_96 : (Jvm.Cond.methodLink "HouseFunctions" (131 : Nat) ({ cls := "HouseFunctions$Table", name := "append", desc := "(II)I" } : Jvm.MethodName)) ∈ al_F := List.mem_of_getElem? (i := 96) rfl
theorem wm_F_97 : (Jvm.Cond.instanceMethod ({ cls := "HouseFunctions", name := "at", desc := "(II)J" } : Jvm.MethodName)) ∈ al_F := List.mem_of_getElem? (i := 97) rfl
theorem wm_F_98 : (Jvm.Cond.selects "HouseFunctions" ({ cls := "HouseFunctions", name := "at", desc := "(II)J" } : Jvm.MethodName) ({ cls := "HouseFunctions", name := "at", desc := "(II)J" } : Jvm.MethodName)) ∈ al_F := List.mem_of_getElem? (i := 98) rfl
theorem wm_F_99 : (Jvm.Cond.code ({ cls := "HouseFunctions", name := "at", desc := "(II)J" } : Jvm.MethodName) prog_1_method_12_code (3 : Nat) (Option.some Jvm.ClassFile.FieldType.long)) ∈ al_F := List.mem_of_getElem? (i := 99) rfl
theorem wm_F_100 : (Jvm.Cond.methodLink "HouseFunctions" (134 : Nat) ({ cls := "HouseFunctions$Table", name := "valueBy", desc := "(I)J" } : Jvm.MethodName)) ∈ al_F := List.mem_of_getElem? (i := 100) rfl
theorem wm_F_101 : (Jvm.Cond.instanceMethod ({ cls := "HouseFunctions", name := "join", desc := "(III)J" } : Jvm.MethodName)) ∈ al_F := List.mem_of_getElem? (i := 101) rfl
theorem wm_F_102 : (Jvm.Cond.selects "HouseFunctions" ({ cls := "HouseFunctions", name := "join", desc := "(III)J" } : Jvm.MethodName) ({ cls := "HouseFunctions", name := "join", desc := "(III)J" } : Jvm.MethodName)) ∈ al_F := List.mem_of_getElem? (i := 102) rfl
theorem wm_F_103 : (Jvm.Cond.code ({ cls := "HouseFunctions", name := "join", desc := "(III)J" } : Jvm.MethodName) prog_1_method_14_code (10 : Nat) (Option.some Jvm.ClassFile.FieldType.long)) ∈ al_F := List.mem_of_getElem? (i := 103) rfl
theorem wm_F_104 : (Jvm.Cond.selects "HouseFunctions" ({ cls := "HouseFunctions", name := "isBelowKeptLog", desc := "(I)Z" } : Jvm.MethodName) ({ cls := "HouseFunctions", name := "isBelowKeptLog", desc := "(I)Z" } : Jvm.MethodName)) ∈ al_F := List.mem_of_getElem? (i := 104) rfl
theorem wm_F_105 : (Jvm.Cond.selects "HouseFunctions" ({ cls := "HouseFunctions", name := "tableOf", desc := "(I)LHouseFunctions$Table;" } : Jvm.MethodName) ({ cls := "HouseFunctions", name := "tableOf", desc := "(I)LHouseFunctions$Table;" } : Jvm.MethodName)) ∈ al_F := List.mem_of_getElem? (i := 105) rfl
theorem wm_F_106 : (Jvm.Cond.instanceMethod ({ cls := "java/lang/Object", name := "<init>", desc := "()V" } : Jvm.MethodName)) ∈ al_F := List.mem_of_getElem? (i := 106) rfl
theorem wm_F_107 : (Jvm.Cond.code ({ cls := "java/lang/Object", name := "<init>", desc := "()V" } : Jvm.MethodName) object_method_1_code (1 : Nat) (Option.none : Option Jvm.ClassFile.FieldType)) ∈ al_F := List.mem_of_getElem? (i := 107) rfl
theorem wm_F_108 : (Jvm.Cond.initialized "java/lang/Math") ∈ al_F := List.mem_of_getElem? (i := 108) rfl
theorem wm_F_109 : (Jvm.Cond.static ({ cls := "java/lang/Math", name := "abs", desc := "(J)J" } : Jvm.MethodName)) ∈ al_F := List.mem_of_getElem? (i := 109) rfl
theorem wm_F_110 : (Jvm.Cond.code ({ cls := "java/lang/Math", name := "abs", desc := "(J)J" } : Jvm.MethodName) prog_10_method_61_code (2 : Nat) (Option.some Jvm.ClassFile.FieldType.long)) ∈ al_F := List.mem_of_getElem? (i := 110) rfl
theorem wm_F_111 : (Jvm.Cond.static ({ cls := "java/lang/Math", name := "floorDiv", desc := "(II)I" } : Jvm.MethodName)) ∈ al_F := List.mem_of_getElem? (i := 111) rfl
theorem wm_F_112 : (Jvm.Cond.code ({ cls := "java/lang/Math", name := "floorDiv", desc := "(II)I" } : Jvm.MethodName) prog_10_method_47_code (3 : Nat) (Option.some Jvm.ClassFile.FieldType.int)) ∈ al_F := List.mem_of_getElem? (i := 112) rfl
theorem wm_F_113 : (Jvm.Cond.initialized "java/lang/IllegalArgumentException") ∈ al_F := List.mem_of_getElem? (i := 113) rfl
theorem wm_F_114 : (Jvm.Cond.initialized "java/lang/IllegalStateException") ∈ al_F := List.mem_of_getElem? (i := 114) rfl
theorem wm_F_115 : (Jvm.Cond.initialized "HouseFunctions$Reckoner") ∈ al_F := List.mem_of_getElem? (i := 115) rfl
theorem wm_F_116 : (Jvm.Cond.instantiable "HouseFunctions$Reckoner" (5 : Nat)) ∈ al_F := List.mem_of_getElem? (i := 116) rfl
theorem wm_F_117 : (Jvm.Cond.instanceMethod ({ cls := "HouseFunctions$Reckoner", name := "<init>", desc := "()V" } : Jvm.MethodName)) ∈ al_F := List.mem_of_getElem? (i := 117) rfl
theorem wm_F_118 : (Jvm.Cond.code ({ cls := "HouseFunctions$Reckoner", name := "<init>", desc := "()V" } : Jvm.MethodName) prog_2_method_1_code (1 : Nat) (Option.none : Option Jvm.ClassFile.FieldType)) ∈ al_F := List.mem_of_getElem? (i := 118) rfl
theorem wm_F_119 : (Jvm.Cond.methodLink "HouseFunctions$Reckoner" (3 : Nat) ({ cls := "java/lang/Object", name := "<init>", desc := "()V" } : Jvm.MethodName)) ∈ al_F := List.mem_of_getElem? (i := 119) rfl
theorem wm_F_120 : (Jvm.Cond.classLink "HouseFunctions$Reckoner" (9 : Nat) "HouseFunctions$Wide") ∈ al_F := List.mem_of_getElem? (i := 120) rfl
theorem wm_F_121 : (Jvm.Cond.fieldLink "HouseFunctions$Reckoner" (12 : Nat) "HouseFunctions$Reckoner" "value" "LHouseFunctions$Wide;") ∈ al_F := List.mem_of_getElem? (i := 121) rfl
theorem wm_F_122 : (Jvm.Cond.fieldLink "HouseFunctions$Reckoner" (18 : Nat) "HouseFunctions$Reckoner" "term" "LHouseFunctions$Wide;") ∈ al_F := List.mem_of_getElem? (i := 122) rfl
theorem wm_F_123 : (Jvm.Cond.fieldLink "HouseFunctions$Reckoner" (21 : Nat) "HouseFunctions$Reckoner" "factor" "LHouseFunctions$Wide;") ∈ al_F := List.mem_of_getElem? (i := 123) rfl
theorem wm_F_124 : (Jvm.Cond.fieldLink "HouseFunctions$Reckoner" (24 : Nat) "HouseFunctions$Reckoner" "part" "LHouseFunctions$Wide;") ∈ al_F := List.mem_of_getElem? (i := 124) rfl
theorem wm_F_125 : (Jvm.Cond.fieldLink "HouseFunctions$Reckoner" (27 : Nat) "HouseFunctions$Reckoner" "kept" "LHouseFunctions$Wide;") ∈ al_F := List.mem_of_getElem? (i := 125) rfl
theorem wm_F_126 : (Jvm.Cond.laysFinal "HouseFunctions$Reckoner" "HouseFunctions$Reckoner" "value" "LHouseFunctions$Wide;") ∈ al_F := List.mem_of_getElem? (i := 126) rfl
theorem wm_F_127 : (Jvm.Cond.laysFinal "HouseFunctions$Reckoner" "HouseFunctions$Reckoner" "term" "LHouseFunctions$Wide;") ∈ al_F := List.mem_of_getElem? (i := 127) rfl
theorem wm_F_128 : (Jvm.Cond.laysFinal "HouseFunctions$Reckoner" "HouseFunctions$Reckoner" "factor" "LHouseFunctions$Wide;") ∈ al_F := List.mem_of_getElem? (i := 128) rfl
theorem wm_F_129 : (Jvm.Cond.laysFinal "HouseFunctions$Reckoner" "HouseFunctions$Reckoner" "part" "LHouseFunctions$Wide;") ∈ al_F := List.mem_of_getElem? (i := 129) rfl
theorem wm_F_130 : (Jvm.Cond.laysFinal "HouseFunctions$Reckoner" "HouseFunctions$Reckoner" "kept" "LHouseFunctions$Wide;") ∈ al_F := List.mem_of_getElem? (i := 130) rfl
theorem wm_F_131 : (Jvm.Cond.instanceMethod ({ cls := "HouseFunctions$Reckoner", name := "raiseE", desc := "(JJ)V" } : Jvm.MethodName)) ∈ al_F := List.mem_of_getElem? (i := 131) rfl
theorem wm_F_132 : (Jvm.Cond.selects "HouseFunctions$Reckoner" ({ cls := "HouseFunctions$Reckoner", name := "raiseE", desc := "(JJ)V" } : Jvm.MethodName) ({ cls := "HouseFunctions$Reckoner", name := "raiseE", desc := "(JJ)V" } : Jvm.MethodName)) ∈ al_F := List.mem_of_getElem? (i := 132) rfl
theorem wm_F_133 : (Jvm.Cond.code ({ cls := "HouseFunctions$Reckoner", name := "raiseE", desc := "(JJ)V" } : Jvm.MethodName) prog_2_method_3_code (10 : Nat) (Option.none : Option Jvm.ClassFile.FieldType)) ∈ al_F := List.mem_of_getElem? (i := 133) rfl
theorem wm_F_134 : (Jvm.Cond.methodLink "HouseFunctions$Reckoner" (38 : Nat) ({ cls := "java/lang/Math", name := "abs", desc := "(J)J" } : Jvm.MethodName)) ∈ al_F := List.mem_of_getElem? (i := 134) rfl
theorem wm_F_135 : (Jvm.Cond.methodLink "HouseFunctions$Reckoner" (44 : Nat) ({ cls := "HouseFunctions$Wide", name := "load", desc := "(J)V" } : Jvm.MethodName)) ∈ al_F := List.mem_of_getElem? (i := 135) rfl
theorem wm_F_136 : (Jvm.Cond.methodLink "HouseFunctions$Reckoner" (47 : Nat) ({ cls := "HouseFunctions$Wide", name := "isZero", desc := "()Z" } : Jvm.MethodName)) ∈ al_F := List.mem_of_getElem? (i := 136) rfl
theorem wm_F_137 : (Jvm.Cond.methodLink "HouseFunctions$Reckoner" (30 : Nat) ({ cls := "HouseFunctions$Wide", name := "scale", desc := "(J)V" } : Jvm.MethodName)) ∈ al_F := List.mem_of_getElem? (i := 137) rfl
theorem wm_F_138 : (Jvm.Cond.methodLink "HouseFunctions$Reckoner" (51 : Nat) ({ cls := "HouseFunctions$Wide", name := "divide", desc := "(J)V" } : Jvm.MethodName)) ∈ al_F := List.mem_of_getElem? (i := 138) rfl
theorem wm_F_139 : (Jvm.Cond.methodLink "HouseFunctions$Reckoner" (54 : Nat) ({ cls := "HouseFunctions$Wide", name := "addOrSubtract", desc := "(LHouseFunctions$Wide;Z)V" } : Jvm.MethodName)) ∈ al_F := List.mem_of_getElem? (i := 139) rfl
theorem wm_F_140 : (Jvm.Cond.methodLink "HouseFunctions$Reckoner" (58 : Nat) ({ cls := "HouseFunctions$Wide", name := "multiply", desc := "(LHouseFunctions$Wide;)V" } : Jvm.MethodName)) ∈ al_F := List.mem_of_getElem? (i := 140) rfl
theorem wm_F_141 : (Jvm.Cond.instanceMethod ({ cls := "HouseFunctions$Reckoner", name := "floorTimes", desc := "(J)J" } : Jvm.MethodName)) ∈ al_F := List.mem_of_getElem? (i := 141) rfl
theorem wm_F_142 : (Jvm.Cond.selects "HouseFunctions$Reckoner" ({ cls := "HouseFunctions$Reckoner", name := "floorTimes", desc := "(J)J" } : Jvm.MethodName) ({ cls := "HouseFunctions$Reckoner", name := "floorTimes", desc := "(J)J" } : Jvm.MethodName)) ∈ al_F := List.mem_of_getElem? (i := 142) rfl
theorem wm_F_143 : (Jvm.Cond.code ({ cls := "HouseFunctions$Reckoner", name := "floorTimes", desc := "(J)J" } : Jvm.MethodName) prog_2_method_2_code (3 : Nat) (Option.some Jvm.ClassFile.FieldType.long)) ∈ al_F := List.mem_of_getElem? (i := 143) rfl
theorem wm_F_144 : (Jvm.Cond.methodLink "HouseFunctions$Reckoner" (34 : Nat) ({ cls := "HouseFunctions$Wide", name := "whole", desc := "()J" } : Jvm.MethodName)) ∈ al_F := List.mem_of_getElem? (i := 144) rfl
theorem wm_F_145 : (Jvm.Cond.instanceMethod ({ cls := "HouseFunctions$Reckoner", name := "takeLog", desc := "(JJ)V" } : Jvm.MethodName)) ∈ al_F := List.mem_of_getElem? (i := 145) rfl
theorem wm_F_146 : (Jvm.Cond.selects "HouseFunctions$Reckoner" ({ cls := "HouseFunctions$Reckoner", name := "takeLog", desc := "(JJ)V" } : Jvm.MethodName) ({ cls := "HouseFunctions$Reckoner", name := "takeLog", desc := "(JJ)V" } : Jvm.MethodName)) ∈ al_F := List.mem_of_getElem? (i := 146) rfl
theorem wm_F_147 : (Jvm.Cond.code ({ cls := "HouseFunctions$Reckoner", name := "takeLog", desc := "(JJ)V" } : Jvm.MethodName) prog_2_method_4_code (11 : Nat) (Option.none : Option Jvm.ClassFile.FieldType)) ∈ al_F := List.mem_of_getElem? (i := 147) rfl
theorem wm_F_148 : (Jvm.Cond.constantLong "HouseFunctions$Reckoner" (62 : Nat) (5 : Int64)) ∈ al_F := List.mem_of_getElem? (i := 148) rfl
theorem wm_F_149 : (Jvm.Cond.constantLong "HouseFunctions$Reckoner" (64 : Nat) (7 : Int64)) ∈ al_F := List.mem_of_getElem? (i := 149) rfl
theorem wm_F_150 : (Jvm.Cond.constantLong "HouseFunctions$Reckoner" (66 : Nat) (2 : Int64)) ∈ al_F := List.mem_of_getElem? (i := 150) rfl
theorem wm_F_151 : (Jvm.Cond.constantLong "HouseFunctions$Reckoner" (68 : Nat) (10 : Int64)) ∈ al_F := List.mem_of_getElem? (i := 151) rfl
theorem wm_F_152 : (Jvm.Cond.methodLink "HouseFunctions$Reckoner" (70 : Nat) ({ cls := "HouseFunctions$Wide", name := "loadRatio", desc := "(JJ)V" } : Jvm.MethodName)) ∈ al_F := List.mem_of_getElem? (i := 152) rfl
theorem wm_F_153 : (Jvm.Cond.methodLink "HouseFunctions$Reckoner" (74 : Nat) ({ cls := "HouseFunctions$Reckoner", name := "sumOddPowers", desc := "(Z)V" } : Jvm.MethodName)) ∈ al_F := List.mem_of_getElem? (i := 153) rfl
theorem wm_F_154 : (Jvm.Cond.instanceMethod ({ cls := "HouseFunctions$Reckoner", name := "sumOddPowers", desc := "(Z)V" } : Jvm.MethodName)) ∈ al_F := List.mem_of_getElem? (i := 154) rfl
theorem wm_F_155 : (Jvm.Cond.code ({ cls := "HouseFunctions$Reckoner", name := "sumOddPowers", desc := "(Z)V" } : Jvm.MethodName) prog_2_method_12_code (3 : Nat) (Option.none : Option Jvm.ClassFile.FieldType)) ∈ al_F := List.mem_of_getElem? (i := 155) rfl
theorem wm_F_156 : (Jvm.Cond.methodLink "HouseFunctions$Reckoner" (104 : Nat) ({ cls := "HouseFunctions$Wide", name := "loadWide", desc := "(LHouseFunctions$Wide;)V" } : Jvm.MethodName)) ∈ al_F := List.mem_of_getElem? (i := 156) rfl
theorem wm_F_157 : (Jvm.Cond.methodLink "HouseFunctions$Reckoner" (78 : Nat) ({ cls := "HouseFunctions$Wide", name := "negate", desc := "()V" } : Jvm.MethodName)) ∈ al_F := List.mem_of_getElem? (i := 157) rfl
theorem wm_F_158 : (Jvm.Cond.fieldLink "HouseFunctions$Reckoner" (81 : Nat) "HouseFunctions$Reckoner" "LOG_OF_TWO" "[J") ∈ al_F := List.mem_of_getElem? (i := 158) rfl
theorem wm_F_159 : (Jvm.Cond.methodLink "HouseFunctions$Reckoner" (85 : Nat) ({ cls := "HouseFunctions$Wide", name := "loadLimbs", desc := "([JI)V" } : Jvm.MethodName)) ∈ al_F := List.mem_of_getElem? (i := 159) rfl
theorem wm_F_160 : (Jvm.Cond.methodLink "HouseFunctions$Reckoner" (89 : Nat) ({ cls := "java/lang/Math", name := "abs", desc := "(I)I" } : Jvm.MethodName)) ∈ al_F := List.mem_of_getElem? (i := 160) rfl
theorem wm_F_161 : (Jvm.Cond.instanceMethod ({ cls := "HouseFunctions$Reckoner", name := "swing", desc := "(JI)V" } : Jvm.MethodName)) ∈ al_F := List.mem_of_getElem? (i := 161) rfl
theorem wm_F_162 : (Jvm.Cond.selects "HouseFunctions$Reckoner" ({ cls := "HouseFunctions$Reckoner", name := "swing", desc := "(JI)V" } : Jvm.MethodName) ({ cls := "HouseFunctions$Reckoner", name := "swing", desc := "(JI)V" } : Jvm.MethodName)) ∈ al_F := List.mem_of_getElem? (i := 162) rfl
theorem wm_F_163 : (Jvm.Cond.code ({ cls := "HouseFunctions$Reckoner", name := "swing", desc := "(JI)V" } : Jvm.MethodName) prog_2_method_5_code (8 : Nat) (Option.none : Option Jvm.ClassFile.FieldType)) ∈ al_F := List.mem_of_getElem? (i := 163) rfl
theorem wm_F_164 : (Jvm.Cond.constantLong "HouseFunctions$Reckoner" (92 : Nat) (636619772 : Int64)) ∈ al_F := List.mem_of_getElem? (i := 164) rfl
theorem wm_F_165 : (Jvm.Cond.constantLong "HouseFunctions$Reckoner" (94 : Nat) (1000000000000000 : Int64)) ∈ al_F := List.mem_of_getElem? (i := 165) rfl
theorem wm_F_166 : (Jvm.Cond.constantLong "HouseFunctions$Reckoner" (96 : Nat) (1000000 : Int64)) ∈ al_F := List.mem_of_getElem? (i := 166) rfl
theorem wm_F_167 : (Jvm.Cond.fieldLink "HouseFunctions$Reckoner" (98 : Nat) "HouseFunctions$Reckoner" "HALF_PI" "[J") ∈ al_F := List.mem_of_getElem? (i := 167) rfl
theorem wm_F_168 : (Jvm.Cond.methodLink "HouseFunctions$Reckoner" (101 : Nat) ({ cls := "HouseFunctions$Wide", name := "subtract", desc := "(LHouseFunctions$Wide;)V" } : Jvm.MethodName)) ∈ al_F := List.mem_of_getElem? (i := 168) rfl
theorem wm_F_169 : (Jvm.Cond.constantLong "HouseFunctions$Reckoner" (107 : Nat) (3 : Int64)) ∈ al_F := List.mem_of_getElem? (i := 169) rfl
theorem wm_F_170 : (Jvm.Cond.methodLink "HouseFunctions$Reckoner" (109 : Nat) ({ cls := "HouseFunctions$Reckoner", name := "sumFactorials", desc := "(I)V" } : Jvm.MethodName)) ∈ al_F := List.mem_of_getElem? (i := 170) rfl
theorem wm_F_171 : (Jvm.Cond.instanceMethod ({ cls := "HouseFunctions$Reckoner", name := "sumFactorials", desc := "(I)V" } : Jvm.MethodName)) ∈ al_F := List.mem_of_getElem? (i := 171) rfl
theorem wm_F_172 : (Jvm.Cond.code ({ cls := "HouseFunctions$Reckoner", name := "sumFactorials", desc := "(I)V" } : Jvm.MethodName) prog_2_method_13_code (4 : Nat) (Option.none : Option Jvm.ClassFile.FieldType)) ∈ al_F := List.mem_of_getElem? (i := 172) rfl
theorem wm_F_173 : (Jvm.Cond.instanceMethod ({ cls := "HouseFunctions$Reckoner", name := "pointTo", desc := "(II)V" } : Jvm.MethodName)) ∈ al_F := List.mem_of_getElem? (i := 173) rfl
theorem wm_F_174 : (Jvm.Cond.selects "HouseFunctions$Reckoner" ({ cls := "HouseFunctions$Reckoner", name := "pointTo", desc := "(II)V" } : Jvm.MethodName) ({ cls := "HouseFunctions$Reckoner", name := "pointTo", desc := "(II)V" } : Jvm.MethodName)) ∈ al_F := List.mem_of_getElem? (i := 174) rfl
theorem wm_F_175 : (Jvm.Cond.code ({ cls := "HouseFunctions$Reckoner", name := "pointTo", desc := "(II)V" } : Jvm.MethodName) prog_2_method_6_code (7 : Nat) (Option.none : Option Jvm.ClassFile.FieldType)) ∈ al_F := List.mem_of_getElem? (i := 175) rfl
theorem wm_F_176 : (Jvm.Cond.methodLink "HouseFunctions$Reckoner" (113 : Nat) ({ cls := "java/lang/Math", name := "min", desc := "(JJ)J" } : Jvm.MethodName)) ∈ al_F := List.mem_of_getElem? (i := 176) rfl
theorem wm_F_177 : (Jvm.Cond.methodLink "HouseFunctions$Reckoner" (117 : Nat) ({ cls := "java/lang/Math", name := "max", desc := "(JJ)J" } : Jvm.MethodName)) ∈ al_F := List.mem_of_getElem? (i := 177) rfl
theorem wm_F_178 : (Jvm.Cond.methodLink "HouseFunctions$Reckoner" (120 : Nat) ({ cls := "HouseFunctions$Reckoner", name := "setFlatAngle", desc := "(JJ)V" } : Jvm.MethodName)) ∈ al_F := List.mem_of_getElem? (i := 178) rfl
theorem wm_F_179 : (Jvm.Cond.instanceMethod ({ cls := "HouseFunctions$Reckoner", name := "setFlatAngle", desc := "(JJ)V" } : Jvm.MethodName)) ∈ al_F := List.mem_of_getElem? (i := 179) rfl
theorem wm_F_180 : (Jvm.Cond.code ({ cls := "HouseFunctions$Reckoner", name := "setFlatAngle", desc := "(JJ)V" } : Jvm.MethodName) prog_2_method_11_code (11 : Nat) (Option.none : Option Jvm.ClassFile.FieldType)) ∈ al_F := List.mem_of_getElem? (i := 180) rfl
theorem wm_F_181 : (Jvm.Cond.constantLong "HouseFunctions$Reckoner" (147 : Nat) (8 : Int64)) ∈ al_F := List.mem_of_getElem? (i := 181) rfl
theorem wm_F_182 : (Jvm.Cond.constantLong "HouseFunctions$Reckoner" (149 : Nat) (4 : Int64)) ∈ al_F := List.mem_of_getElem? (i := 182) rfl
theorem wm_F_183 : (Jvm.Cond.fieldLink "HouseFunctions$Reckoner" (151 : Nat) "HouseFunctions$Reckoner" "ANGLES_BY_QUARTER_TANGENT" "[J") ∈ al_F := List.mem_of_getElem? (i := 183) rfl
theorem wm_F_184 : (Jvm.Cond.methodLink "HouseFunctions$Reckoner" (123 : Nat) ({ cls := "HouseFunctions$Wide", name := "add", desc := "(LHouseFunctions$Wide;)V" } : Jvm.MethodName)) ∈ al_F := List.mem_of_getElem? (i := 184) rfl
theorem wm_F_185 : (Jvm.Cond.instanceMethod ({ cls := "HouseFunctions$Reckoner", name := "floorOfRoot", desc := "(JI)J" } : Jvm.MethodName)) ∈ al_F := List.mem_of_getElem? (i := 185) rfl
theorem wm_F_186 : (Jvm.Cond.selects "HouseFunctions$Reckoner" ({ cls := "HouseFunctions$Reckoner", name := "floorOfRoot", desc := "(JI)J" } : Jvm.MethodName) ({ cls := "HouseFunctions$Reckoner", name := "floorOfRoot", desc := "(JI)J" } : Jvm.MethodName)) ∈ al_F := List.mem_of_getElem? (i := 186) rfl
theorem wm_F_187 : (Jvm.Cond.code ({ cls := "HouseFunctions$Reckoner", name := "floorOfRoot", desc := "(JI)J" } : Jvm.MethodName) prog_2_method_7_code (9 : Nat) (Option.some Jvm.ClassFile.FieldType.long)) ∈ al_F := List.mem_of_getElem? (i := 187) rfl
theorem wm_F_188 : (Jvm.Cond.methodLink "HouseFunctions$Reckoner" (126 : Nat) ({ cls := "HouseFunctions$Wide", name := "loadInteger", desc := "(J)V" } : Jvm.MethodName)) ∈ al_F := List.mem_of_getElem? (i := 188) rfl
theorem wm_F_189 : (Jvm.Cond.constantLong "HouseFunctions$Reckoner" (129 : Nat) (1000000000 : Int64)) ∈ al_F := List.mem_of_getElem? (i := 189) rfl
theorem wm_F_190 : (Jvm.Cond.constantLong "HouseFunctions$Reckoner" (131 : Nat) (1000 : Int64)) ∈ al_F := List.mem_of_getElem? (i := 190) rfl
theorem wm_F_191 : (Jvm.Cond.methodLink "HouseFunctions$Reckoner" (133 : Nat) ({ cls := "HouseFunctions$Reckoner", name := "isPowerWithinKept", desc := "(JI)Z" } : Jvm.MethodName)) ∈ al_F := List.mem_of_getElem? (i := 191) rfl
theorem wm_F_192 : (Jvm.Cond.instanceMethod ({ cls := "HouseFunctions$Reckoner", name := "isPowerWithinKept", desc := "(JI)Z" } : Jvm.MethodName)) ∈ al_F := List.mem_of_getElem? (i := 192) rfl
theorem wm_F_193 : (Jvm.Cond.code ({ cls := "HouseFunctions$Reckoner", name := "isPowerWithinKept", desc := "(JI)Z" } : Jvm.MethodName) prog_2_method_10_code (5 : Nat) (Option.some Jvm.ClassFile.FieldType.boolean)) ∈ al_F := List.mem_of_getElem? (i := 193) rfl
theorem wm_F_194 : (Jvm.Cond.methodLink "HouseFunctions$Reckoner" (140 : Nat) ({ cls := "HouseFunctions$Wide", name := "multiplyInteger", desc := "(LHouseFunctions$Wide;)V" } : Jvm.MethodName)) ∈ al_F := List.mem_of_getElem? (i := 194) rfl
theorem wm_F_195 : (Jvm.Cond.methodLink "HouseFunctions$Reckoner" (143 : Nat) ({ cls := "HouseFunctions$Wide", name := "isAbove", desc := "(LHouseFunctions$Wide;)Z" } : Jvm.MethodName)) ∈ al_F := List.mem_of_getElem? (i := 195) rfl
theorem wm_F_196 : (Jvm.Cond.instanceMethod ({ cls := "HouseFunctions$Reckoner", name := "keepLog", desc := "()V" } : Jvm.MethodName)) ∈ al_F := List.mem_of_getElem? (i := 196) rfl
theorem wm_F_197 : (Jvm.Cond.selects "HouseFunctions$Reckoner" ({ cls := "HouseFunctions$Reckoner", name := "keepLog", desc := "()V" } : Jvm.MethodName) ({ cls := "HouseFunctions$Reckoner", name := "keepLog", desc := "()V" } : Jvm.MethodName)) ∈ al_F := List.mem_of_getElem? (i := 197) rfl
theorem wm_F_198 : (Jvm.Cond.code ({ cls := "HouseFunctions$Reckoner", name := "keepLog", desc := "()V" } : Jvm.MethodName) prog_2_method_8_code (1 : Nat) (Option.none : Option Jvm.ClassFile.FieldType)) ∈ al_F := List.mem_of_getElem? (i := 198) rfl
theorem wm_F_199 : (Jvm.Cond.instanceMethod ({ cls := "HouseFunctions$Reckoner", name := "isRatioBelowKept", desc := "(JJ)Z" } : Jvm.MethodName)) ∈ al_F := List.mem_of_getElem? (i := 199) rfl
theorem wm_F_200 : (Jvm.Cond.selects "HouseFunctions$Reckoner" ({ cls := "HouseFunctions$Reckoner", name := "isRatioBelowKept", desc := "(JJ)Z" } : Jvm.MethodName) ({ cls := "HouseFunctions$Reckoner", name := "isRatioBelowKept", desc := "(JJ)Z" } : Jvm.MethodName)) ∈ al_F := List.mem_of_getElem? (i := 200) rfl
theorem wm_F_201 : (Jvm.Cond.code ({ cls := "HouseFunctions$Reckoner", name := "isRatioBelowKept", desc := "(JJ)Z" } : Jvm.MethodName) prog_2_method_9_code (5 : Nat) (Option.some Jvm.ClassFile.FieldType.boolean)) ∈ al_F := List.mem_of_getElem? (i := 201) rfl
theorem wm_F_202 : (Jvm.Cond.methodLink "HouseFunctions$Reckoner" (137 : Nat) ({ cls := "HouseFunctions$Wide", name := "isNegative", desc := "()Z" } : Jvm.MethodName)) ∈ al_F := List.mem_of_getElem? (i := 202) rfl
theorem wm_F_203 : (Jvm.Cond.selects "HouseFunctions$Reckoner" ({ cls := "HouseFunctions$Reckoner", name := "sumOddPowers", desc := "(Z)V" } : Jvm.MethodName) ({ cls := "HouseFunctions$Reckoner", name := "sumOddPowers", desc := "(Z)V" } : Jvm.MethodName)) ∈ al_F := List.mem_of_getElem? (i := 203) rfl
theorem wm_F_204 : (Jvm.Cond.selects "HouseFunctions$Reckoner" ({ cls := "HouseFunctions$Reckoner", name := "sumFactorials", desc := "(I)V" } : Jvm.MethodName) ({ cls := "HouseFunctions$Reckoner", name := "sumFactorials", desc := "(I)V" } : Jvm.MethodName)) ∈ al_F := List.mem_of_getElem? (i := 204) rfl
theorem wm_F_205 : (Jvm.Cond.selects "HouseFunctions$Reckoner" ({ cls := "HouseFunctions$Reckoner", name := "setFlatAngle", desc := "(JJ)V" } : Jvm.MethodName) ({ cls := "HouseFunctions$Reckoner", name := "setFlatAngle", desc := "(JJ)V" } : Jvm.MethodName)) ∈ al_F := List.mem_of_getElem? (i := 205) rfl
theorem wm_F_206 : (Jvm.Cond.selects "HouseFunctions$Reckoner" ({ cls := "HouseFunctions$Reckoner", name := "isPowerWithinKept", desc := "(JI)Z" } : Jvm.MethodName) ({ cls := "HouseFunctions$Reckoner", name := "isPowerWithinKept", desc := "(JI)Z" } : Jvm.MethodName)) ∈ al_F := List.mem_of_getElem? (i := 206) rfl
theorem wm_F_207 : (Jvm.Cond.instanceMethod ({ cls := "java/lang/Object", name := "<init>", desc := "()V" } : Jvm.MethodName)) ∈ al_F := List.mem_of_getElem? (i := 207) rfl
theorem wm_F_208 : (Jvm.Cond.code ({ cls := "java/lang/Object", name := "<init>", desc := "()V" } : Jvm.MethodName) object_method_1_code (1 : Nat) (Option.none : Option Jvm.ClassFile.FieldType)) ∈ al_F := List.mem_of_getElem? (i := 208) rfl
theorem wm_F_209 : (Jvm.Cond.initialized "java/lang/Math") ∈ al_F := List.mem_of_getElem? (i := 209) rfl
theorem wm_F_210 : (Jvm.Cond.static ({ cls := "java/lang/Math", name := "abs", desc := "(J)J" } : Jvm.MethodName)) ∈ al_F := List.mem_of_getElem? (i := 210) rfl
theorem wm_F_211 : (Jvm.Cond.code ({ cls := "java/lang/Math", name := "abs", desc := "(J)J" } : Jvm.MethodName) prog_10_method_61_code (2 : Nat) (Option.some Jvm.ClassFile.FieldType.long)) ∈ al_F := List.mem_of_getElem? (i := 211) rfl
theorem wm_F_212 : (Jvm.Cond.static ({ cls := "java/lang/Math", name := "abs", desc := "(I)I" } : Jvm.MethodName)) ∈ al_F := List.mem_of_getElem? (i := 212) rfl
theorem wm_F_213 : (Jvm.Cond.code ({ cls := "java/lang/Math", name := "abs", desc := "(I)I" } : Jvm.MethodName) prog_10_method_59_code (1 : Nat) (Option.some Jvm.ClassFile.FieldType.int)) ∈ al_F := List.mem_of_getElem? (i := 213) rfl
theorem wm_F_214 : (Jvm.Cond.static ({ cls := "java/lang/Math", name := "min", desc := "(JJ)J" } : Jvm.MethodName)) ∈ al_F := List.mem_of_getElem? (i := 214) rfl
theorem wm_F_215 : (Jvm.Cond.code ({ cls := "java/lang/Math", name := "min", desc := "(JJ)J" } : Jvm.MethodName) prog_10_method_70_code (4 : Nat) (Option.some Jvm.ClassFile.FieldType.long)) ∈ al_F := List.mem_of_getElem? (i := 215) rfl
theorem wm_F_216 : (Jvm.Cond.static ({ cls := "java/lang/Math", name := "max", desc := "(JJ)J" } : Jvm.MethodName)) ∈ al_F := List.mem_of_getElem? (i := 216) rfl
theorem wm_F_217 : (Jvm.Cond.code ({ cls := "java/lang/Math", name := "max", desc := "(JJ)J" } : Jvm.MethodName) prog_10_method_66_code (4 : Nat) (Option.some Jvm.ClassFile.FieldType.long)) ∈ al_F := List.mem_of_getElem? (i := 217) rfl
theorem wm_F_218 : (Jvm.Cond.initialized "HouseFunctions$Wide") ∈ al_F := List.mem_of_getElem? (i := 218) rfl
theorem wm_F_219 : (Jvm.Cond.instantiable "HouseFunctions$Wide" (2 : Nat)) ∈ al_F := List.mem_of_getElem? (i := 219) rfl
theorem wm_F_220 : (Jvm.Cond.instanceMethod ({ cls := "HouseFunctions$Wide", name := "<init>", desc := "()V" } : Jvm.MethodName)) ∈ al_F := List.mem_of_getElem? (i := 220) rfl
theorem wm_F_221 : (Jvm.Cond.code ({ cls := "HouseFunctions$Wide", name := "<init>", desc := "()V" } : Jvm.MethodName) prog_4_method_1_code (1 : Nat) (Option.none : Option Jvm.ClassFile.FieldType)) ∈ al_F := List.mem_of_getElem? (i := 221) rfl
theorem wm_F_222 : (Jvm.Cond.methodLink "HouseFunctions$Wide" (1 : Nat) ({ cls := "java/lang/Object", name := "<init>", desc := "()V" } : Jvm.MethodName)) ∈ al_F := List.mem_of_getElem? (i := 222) rfl
theorem wm_F_223 : (Jvm.Cond.fieldLink "HouseFunctions$Wide" (9 : Nat) "HouseFunctions$Wide" "limbs" "[J") ∈ al_F := List.mem_of_getElem? (i := 223) rfl
theorem wm_F_224 : (Jvm.Cond.fieldLink "HouseFunctions$Wide" (13 : Nat) "HouseFunctions$Wide" "product" "[J") ∈ al_F := List.mem_of_getElem? (i := 224) rfl
theorem wm_F_225 : (Jvm.Cond.laysFinal "HouseFunctions$Wide" "HouseFunctions$Wide" "limbs" "[J") ∈ al_F := List.mem_of_getElem? (i := 225) rfl
theorem wm_F_226 : (Jvm.Cond.laysFinal "HouseFunctions$Wide" "HouseFunctions$Wide" "product" "[J") ∈ al_F := List.mem_of_getElem? (i := 226) rfl
theorem wm_F_227 : (Jvm.Cond.instanceMethod ({ cls := "HouseFunctions$Wide", name := "load", desc := "(J)V" } : Jvm.MethodName)) ∈ al_F := List.mem_of_getElem? (i := 227) rfl
theorem wm_F_228 : (Jvm.Cond.selects "HouseFunctions$Wide" ({ cls := "HouseFunctions$Wide", name := "load", desc := "(J)V" } : Jvm.MethodName) ({ cls := "HouseFunctions$Wide", name := "load", desc := "(J)V" } : Jvm.MethodName)) ∈ al_F := List.mem_of_getElem? (i := 228) rfl
theorem wm_F_229 : (Jvm.Cond.code ({ cls := "HouseFunctions$Wide", name := "load", desc := "(J)V" } : Jvm.MethodName) prog_4_method_2_code (3 : Nat) (Option.none : Option Jvm.ClassFile.FieldType)) ∈ al_F := List.mem_of_getElem? (i := 229) rfl
theorem wm_F_230 : (Jvm.Cond.methodLink "HouseFunctions$Wide" (16 : Nat) ({ cls := "java/util/Arrays", name := "fill", desc := "([JJ)V" } : Jvm.MethodName)) ∈ al_F := List.mem_of_getElem? (i := 230) rfl
theorem wm_F_231 : (Jvm.Cond.constantLong "HouseFunctions$Wide" (22 : Nat) (4294967295 : Int64)) ∈ al_F := List.mem_of_getElem? (i := 231) rfl
theorem wm_F_232 : (Jvm.Cond.instanceMethod ({ cls := "HouseFunctions$Wide", name := "isZero", desc := "()Z" } : Jvm.MethodName)) ∈ al_F := List.mem_of_getElem? (i := 232) rfl
theorem wm_F_233 : (Jvm.Cond.selects "HouseFunctions$Wide" ({ cls := "HouseFunctions$Wide", name := "isZero", desc := "()Z" } : Jvm.MethodName) ({ cls := "HouseFunctions$Wide", name := "isZero", desc := "()Z" } : Jvm.MethodName)) ∈ al_F := List.mem_of_getElem? (i := 233) rfl
theorem wm_F_234 : (Jvm.Cond.code ({ cls := "HouseFunctions$Wide", name := "isZero", desc := "()Z" } : Jvm.MethodName) prog_4_method_16_code (2 : Nat) (Option.some Jvm.ClassFile.FieldType.boolean)) ∈ al_F := List.mem_of_getElem? (i := 234) rfl
theorem wm_F_235 : (Jvm.Cond.instanceMethod ({ cls := "HouseFunctions$Wide", name := "scale", desc := "(J)V" } : Jvm.MethodName)) ∈ al_F := List.mem_of_getElem? (i := 235) rfl
theorem wm_F_236 : (Jvm.Cond.selects "HouseFunctions$Wide" ({ cls := "HouseFunctions$Wide", name := "scale", desc := "(J)V" } : Jvm.MethodName) ({ cls := "HouseFunctions$Wide", name := "scale", desc := "(J)V" } : Jvm.MethodName)) ∈ al_F := List.mem_of_getElem? (i := 236) rfl
theorem wm_F_237 : (Jvm.Cond.code ({ cls := "HouseFunctions$Wide", name := "scale", desc := "(J)V" } : Jvm.MethodName) prog_4_method_11_code (8 : Nat) (Option.none : Option Jvm.ClassFile.FieldType)) ∈ al_F := List.mem_of_getElem? (i := 237) rfl
theorem wm_F_238 : (Jvm.Cond.instanceMethod ({ cls := "HouseFunctions$Wide", name := "divide", desc := "(J)V" } : Jvm.MethodName)) ∈ al_F := List.mem_of_getElem? (i := 238) rfl
theorem wm_F_239 : (Jvm.Cond.selects "HouseFunctions$Wide" ({ cls := "HouseFunctions$Wide", name := "divide", desc := "(J)V" } : Jvm.MethodName) ({ cls := "HouseFunctions$Wide", name := "divide", desc := "(J)V" } : Jvm.MethodName)) ∈ al_F := List.mem_of_getElem? (i := 239) rfl
theorem wm_F_240 : (Jvm.Cond.code ({ cls := "HouseFunctions$Wide", name := "divide", desc := "(J)V" } : Jvm.MethodName) prog_4_method_12_code (14 : Nat) (Option.none : Option Jvm.ClassFile.FieldType)) ∈ al_F := List.mem_of_getElem? (i := 240) rfl
theorem wm_F_241 : (Jvm.Cond.constantLong "HouseFunctions$Wide" (38 : Nat) (140737488355328 : Int64)) ∈ al_F := List.mem_of_getElem? (i := 241) rfl
theorem wm_F_242 : (Jvm.Cond.constantLong "HouseFunctions$Wide" (40 : Nat) (65535 : Int64)) ∈ al_F := List.mem_of_getElem? (i := 242) rfl
theorem wm_F_243 : (Jvm.Cond.instanceMethod ({ cls := "HouseFunctions$Wide", name := "addOrSubtract", desc := "(LHouseFunctions$Wide;Z)V" } : Jvm.MethodName)) ∈ al_F := List.mem_of_getElem? (i := 243) rfl
theorem wm_F_244 : (Jvm.Cond.selects "HouseFunctions$Wide" ({ cls := "HouseFunctions$Wide", name := "addOrSubtract", desc := "(LHouseFunctions$Wide;Z)V" } : Jvm.MethodName) ({ cls := "HouseFunctions$Wide", name := "addOrSubtract", desc := "(LHouseFunctions$Wide;Z)V" } : Jvm.MethodName)) ∈ al_F := List.mem_of_getElem? (i := 244) rfl
theorem wm_F_245 : (Jvm.Cond.code ({ cls := "HouseFunctions$Wide", name := "addOrSubtract", desc := "(LHouseFunctions$Wide;Z)V" } : Jvm.MethodName) prog_4_method_9_code (3 : Nat) (Option.none : Option Jvm.ClassFile.FieldType)) ∈ al_F := List.mem_of_getElem? (i := 245) rfl
theorem wm_F_246 : (Jvm.Cond.methodLink "HouseFunctions$Wide" (31 : Nat) ({ cls := "HouseFunctions$Wide", name := "subtract", desc := "(LHouseFunctions$Wide;)V" } : Jvm.MethodName)) ∈ al_F := List.mem_of_getElem? (i := 246) rfl
theorem wm_F_247 : (Jvm.Cond.instanceMethod ({ cls := "HouseFunctions$Wide", name := "subtract", desc := "(LHouseFunctions$Wide;)V" } : Jvm.MethodName)) ∈ al_F := List.mem_of_getElem? (i := 247) rfl
theorem wm_F_248 : (Jvm.Cond.selects "HouseFunctions$Wide" ({ cls := "HouseFunctions$Wide", name := "subtract", desc := "(LHouseFunctions$Wide;)V" } : Jvm.MethodName) ({ cls := "HouseFunctions$Wide", name := "subtract", desc := "(LHouseFunctions$Wide;)V" } : Jvm.MethodName)) ∈ al_F := List.mem_of_getElem? (i := 248) rfl
theorem wm_F_249 : (Jvm.Cond.code ({ cls := "HouseFunctions$Wide", name := "subtract", desc := "(LHouseFunctions$Wide;)V" } : Jvm.MethodName) prog_4_method_8_code (7 : Nat) (Option.none : Option Jvm.ClassFile.FieldType)) ∈ al_F := List.mem_of_getElem? (i := 249) rfl
theorem wm_F_250 : (Jvm.Cond.methodLink "HouseFunctions$Wide" (35 : Nat) ({ cls := "HouseFunctions$Wide", name := "add", desc := "(LHouseFunctions$Wide;)V" } : Jvm.MethodName)) ∈ al_F := List.mem_of_getElem? (i := 250) rfl
theorem wm_F_251 : (Jvm.Cond.instanceMethod ({ cls := "HouseFunctions$Wide", name := "add", desc := "(LHouseFunctions$Wide;)V" } : Jvm.MethodName)) ∈ al_F := List.mem_of_getElem? (i := 251) rfl
theorem wm_F_252 : (Jvm.Cond.selects "HouseFunctions$Wide" ({ cls := "HouseFunctions$Wide", name := "add", desc := "(LHouseFunctions$Wide;)V" } : Jvm.MethodName) ({ cls := "HouseFunctions$Wide", name := "add", desc := "(LHouseFunctions$Wide;)V" } : Jvm.MethodName)) ∈ al_F := List.mem_of_getElem? (i := 252) rfl
theorem wm_F_253 : (Jvm.Cond.code ({ cls := "HouseFunctions$Wide", name := "add", desc := "(LHouseFunctions$Wide;)V" } : Jvm.MethodName) prog_4_method_7_code (7 : Nat) (Option.none : Option Jvm.ClassFile.FieldType)) ∈ al_F := List.mem_of_getElem? (i := 253) rfl
theorem wm_F_254 : (Jvm.Cond.instanceMethod ({ cls := "HouseFunctions$Wide", name := "multiply", desc := "(LHouseFunctions$Wide;)V" } : Jvm.MethodName)) ∈ al_F := List.mem_of_getElem? (i := 254) rfl
theorem wm_F_255 : (Jvm.Cond.selects "HouseFunctions$Wide" ({ cls := "HouseFunctions$Wide", name := "multiply", desc := "(LHouseFunctions$Wide;)V" } : Jvm.MethodName) ({ cls := "HouseFunctions$Wide", name := "multiply", desc := "(LHouseFunctions$Wide;)V" } : Jvm.MethodName)) ∈ al_F := List.mem_of_getElem? (i := 255) rfl
theorem wm_F_256 : (Jvm.Cond.code ({ cls := "HouseFunctions$Wide", name := "multiply", desc := "(LHouseFunctions$Wide;)V" } : Jvm.MethodName) prog_4_method_13_code (2 : Nat) (Option.none : Option Jvm.ClassFile.FieldType)) ∈ al_F := List.mem_of_getElem? (i := 256) rfl
theorem wm_F_257 : (Jvm.Cond.methodLink "HouseFunctions$Wide" (42 : Nat) ({ cls := "HouseFunctions$Wide", name := "multiplyAndDrop", desc := "(LHouseFunctions$Wide;I)V" } : Jvm.MethodName)) ∈ al_F := List.mem_of_getElem? (i := 257) rfl
theorem wm_F_258 : (Jvm.Cond.instanceMethod ({ cls := "HouseFunctions$Wide", name := "multiplyAndDrop", desc := "(LHouseFunctions$Wide;I)V" } : Jvm.MethodName)) ∈ al_F := List.mem_of_getElem? (i := 258) rfl
theorem wm_F_259 : (Jvm.Cond.code ({ cls := "HouseFunctions$Wide", name := "multiplyAndDrop", desc := "(LHouseFunctions$Wide;I)V" } : Jvm.MethodName) prog_4_method_15_code (11 : Nat) (Option.none : Option Jvm.ClassFile.FieldType)) ∈ al_F := List.mem_of_getElem? (i := 259) rfl
theorem wm_F_260 : (Jvm.Cond.methodLink "HouseFunctions$Wide" (46 : Nat) ({ cls := "java/lang/Math", name := "max", desc := "(II)I" } : Jvm.MethodName)) ∈ al_F := List.mem_of_getElem? (i := 260) rfl
theorem wm_F_261 : (Jvm.Cond.instanceMethod ({ cls := "HouseFunctions$Wide", name := "whole", desc := "()J" } : Jvm.MethodName)) ∈ al_F := List.mem_of_getElem? (i := 261) rfl
theorem wm_F_262 : (Jvm.Cond.selects "HouseFunctions$Wide" ({ cls := "HouseFunctions$Wide", name := "whole", desc := "()J" } : Jvm.MethodName) ({ cls := "HouseFunctions$Wide", name := "whole", desc := "()J" } : Jvm.MethodName)) ∈ al_F := List.mem_of_getElem? (i := 262) rfl
theorem wm_F_263 : (Jvm.Cond.code ({ cls := "HouseFunctions$Wide", name := "whole", desc := "()J" } : Jvm.MethodName) prog_4_method_19_code (1 : Nat) (Option.some Jvm.ClassFile.FieldType.long)) ∈ al_F := List.mem_of_getElem? (i := 263) rfl
theorem wm_F_264 : (Jvm.Cond.instanceMethod ({ cls := "HouseFunctions$Wide", name := "loadRatio", desc := "(JJ)V" } : Jvm.MethodName)) ∈ al_F := List.mem_of_getElem? (i := 264) rfl
theorem wm_F_265 : (Jvm.Cond.selects "HouseFunctions$Wide" ({ cls := "HouseFunctions$Wide", name := "loadRatio", desc := "(JJ)V" } : Jvm.MethodName) ({ cls := "HouseFunctions$Wide", name := "loadRatio", desc := "(JJ)V" } : Jvm.MethodName)) ∈ al_F := List.mem_of_getElem? (i := 265) rfl
theorem wm_F_266 : (Jvm.Cond.code ({ cls := "HouseFunctions$Wide", name := "loadRatio", desc := "(JJ)V" } : Jvm.MethodName) prog_4_method_4_code (5 : Nat) (Option.none : Option Jvm.ClassFile.FieldType)) ∈ al_F := List.mem_of_getElem? (i := 266) rfl
theorem wm_F_267 : (Jvm.Cond.methodLink "HouseFunctions$Wide" (24 : Nat) ({ cls := "HouseFunctions$Wide", name := "load", desc := "(J)V" } : Jvm.MethodName)) ∈ al_F := List.mem_of_getElem? (i := 267) rfl
theorem wm_F_268 : (Jvm.Cond.methodLink "HouseFunctions$Wide" (28 : Nat) ({ cls := "HouseFunctions$Wide", name := "divide", desc := "(J)V" } : Jvm.MethodName)) ∈ al_F := List.mem_of_getElem? (i := 268) rfl
theorem wm_F_269 : (Jvm.Cond.instanceMethod ({ cls := "HouseFunctions$Wide", name := "loadWide", desc := "(LHouseFunctions$Wide;)V" } : Jvm.MethodName)) ∈ al_F := List.mem_of_getElem? (i := 269) rfl
theorem wm_F_270 : (Jvm.Cond.selects "HouseFunctions$Wide" ({ cls := "HouseFunctions$Wide", name := "loadWide", desc := "(LHouseFunctions$Wide;)V" } : Jvm.MethodName) ({ cls := "HouseFunctions$Wide", name := "loadWide", desc := "(LHouseFunctions$Wide;)V" } : Jvm.MethodName)) ∈ al_F := List.mem_of_getElem? (i := 270) rfl
theorem wm_F_271 : (Jvm.Cond.code ({ cls := "HouseFunctions$Wide", name := "loadWide", desc := "(LHouseFunctions$Wide;)V" } : Jvm.MethodName) prog_4_method_5_code (3 : Nat) (Option.none : Option Jvm.ClassFile.FieldType)) ∈ al_F := List.mem_of_getElem? (i := 271) rfl
theorem wm_F_272 : (Jvm.Cond.instanceMethod ({ cls := "HouseFunctions$Wide", name := "negate", desc := "()V" } : Jvm.MethodName)) ∈ al_F := List.mem_of_getElem? (i := 272) rfl
theorem wm_F_273 : (Jvm.Cond.selects "HouseFunctions$Wide" ({ cls := "HouseFunctions$Wide", name := "negate", desc := "()V" } : Jvm.MethodName) ({ cls := "HouseFunctions$Wide", name := "negate", desc := "()V" } : Jvm.MethodName)) ∈ al_F := List.mem_of_getElem? (i := 273) rfl
theorem wm_F_274 : (Jvm.Cond.code ({ cls := "HouseFunctions$Wide", name := "negate", desc := "()V" } : Jvm.MethodName) prog_4_method_10_code (6 : Nat) (Option.none : Option Jvm.ClassFile.FieldType)) ∈ al_F := List.mem_of_getElem? (i := 274) rfl
theorem wm_F_275 : (Jvm.Cond.instanceMethod ({ cls := "HouseFunctions$Wide", name := "loadLimbs", desc := "([JI)V" } : Jvm.MethodName)) ∈ al_F := List.mem_of_getElem? (i := 275) rfl
theorem wm_F_276 : (Jvm.Cond.selects "HouseFunctions$Wide" ({ cls := "HouseFunctions$Wide", name := "loadLimbs", desc := "([JI)V" } : Jvm.MethodName) ({ cls := "HouseFunctions$Wide", name := "loadLimbs", desc := "([JI)V" } : Jvm.MethodName)) ∈ al_F := List.mem_of_getElem? (i := 276) rfl
theorem wm_F_277 : (Jvm.Cond.code ({ cls := "HouseFunctions$Wide", name := "loadLimbs", desc := "([JI)V" } : Jvm.MethodName) prog_4_method_6_code (5 : Nat) (Option.none : Option Jvm.ClassFile.FieldType)) ∈ al_F := List.mem_of_getElem? (i := 277) rfl
theorem wm_F_278 : (Jvm.Cond.instanceMethod ({ cls := "HouseFunctions$Wide", name := "loadInteger", desc := "(J)V" } : Jvm.MethodName)) ∈ al_F := List.mem_of_getElem? (i := 278) rfl
theorem wm_F_279 : (Jvm.Cond.selects "HouseFunctions$Wide" ({ cls := "HouseFunctions$Wide", name := "loadInteger", desc := "(J)V" } : Jvm.MethodName) ({ cls := "HouseFunctions$Wide", name := "loadInteger", desc := "(J)V" } : Jvm.MethodName)) ∈ al_F := List.mem_of_getElem? (i := 279) rfl
theorem wm_F_280 : (Jvm.Cond.code ({ cls := "HouseFunctions$Wide", name := "loadInteger", desc := "(J)V" } : Jvm.MethodName) prog_4_method_3_code (3 : Nat) (Option.none : Option Jvm.ClassFile.FieldType)) ∈ al_F := List.mem_of_getElem? (i := 280) rfl
theorem wm_F_281 : (Jvm.Cond.instanceMethod ({ cls := "HouseFunctions$Wide", name := "multiplyInteger", desc := "(LHouseFunctions$Wide;)V" } : Jvm.MethodName)) ∈ al_F := List.mem_of_getElem? (i := 281) rfl
theorem wm_F_282 : (Jvm.Cond.selects "HouseFunctions$Wide" ({ cls := "HouseFunctions$Wide", name := "multiplyInteger", desc := "(LHouseFunctions$Wide;)V" } : Jvm.MethodName) ({ cls := "HouseFunctions$Wide", name := "multiplyInteger", desc := "(LHouseFunctions$Wide;)V" } : Jvm.MethodName)) ∈ al_F := List.mem_of_getElem? (i := 282) rfl
theorem wm_F_283 : (Jvm.Cond.code ({ cls := "HouseFunctions$Wide", name := "multiplyInteger", desc := "(LHouseFunctions$Wide;)V" } : Jvm.MethodName) prog_4_method_14_code (2 : Nat) (Option.none : Option Jvm.ClassFile.FieldType)) ∈ al_F := List.mem_of_getElem? (i := 283) rfl
theorem wm_F_284 : (Jvm.Cond.instanceMethod ({ cls := "HouseFunctions$Wide", name := "isAbove", desc := "(LHouseFunctions$Wide;)Z" } : Jvm.MethodName)) ∈ al_F := List.mem_of_getElem? (i := 284) rfl
theorem wm_F_285 : (Jvm.Cond.selects "HouseFunctions$Wide" ({ cls := "HouseFunctions$Wide", name := "isAbove", desc := "(LHouseFunctions$Wide;)Z" } : Jvm.MethodName) ({ cls := "HouseFunctions$Wide", name := "isAbove", desc := "(LHouseFunctions$Wide;)Z" } : Jvm.MethodName)) ∈ al_F := List.mem_of_getElem? (i := 285) rfl
theorem wm_F_286 : (Jvm.Cond.code ({ cls := "HouseFunctions$Wide", name := "isAbove", desc := "(LHouseFunctions$Wide;)Z" } : Jvm.MethodName) prog_4_method_18_code (3 : Nat) (Option.some Jvm.ClassFile.FieldType.boolean)) ∈ al_F := List.mem_of_getElem? (i := 286) rfl
theorem wm_F_287 : (Jvm.Cond.instanceMethod ({ cls := "HouseFunctions$Wide", name := "isNegative", desc := "()Z" } : Jvm.MethodName)) ∈ al_F := List.mem_of_getElem? (i := 287) rfl
theorem wm_F_288 : (Jvm.Cond.selects "HouseFunctions$Wide" ({ cls := "HouseFunctions$Wide", name := "isNegative", desc := "()Z" } : Jvm.MethodName) ({ cls := "HouseFunctions$Wide", name := "isNegative", desc := "()Z" } : Jvm.MethodName)) ∈ al_F := List.mem_of_getElem? (i := 288) rfl
theorem wm_F_289 : (Jvm.Cond.code ({ cls := "HouseFunctions$Wide", name := "isNegative", desc := "()Z" } : Jvm.MethodName) prog_4_method_17_code (1 : Nat) (Option.some Jvm.ClassFile.FieldType.boolean)) ∈ al_F := List.mem_of_getElem? (i := 289) rfl
theorem wm_F_290 : (Jvm.Cond.constantLong "HouseFunctions$Wide" (52 : Nat) (2147483648 : Int64)) ∈ al_F := List.mem_of_getElem? (i := 290) rfl
theorem wm_F_291 : (Jvm.Cond.selects "HouseFunctions$Wide" ({ cls := "HouseFunctions$Wide", name := "multiplyAndDrop", desc := "(LHouseFunctions$Wide;I)V" } : Jvm.MethodName) ({ cls := "HouseFunctions$Wide", name := "multiplyAndDrop", desc := "(LHouseFunctions$Wide;I)V" } : Jvm.MethodName)) ∈ al_F := List.mem_of_getElem? (i := 291) rfl
theorem wm_F_292 : (Jvm.Cond.instanceMethod ({ cls := "java/lang/Object", name := "<init>", desc := "()V" } : Jvm.MethodName)) ∈ al_F := List.mem_of_getElem? (i := 292) rfl
theorem wm_F_293 : (Jvm.Cond.code ({ cls := "java/lang/Object", name := "<init>", desc := "()V" } : Jvm.MethodName) object_method_1_code (1 : Nat) (Option.none : Option Jvm.ClassFile.FieldType)) ∈ al_F := List.mem_of_getElem? (i := 293) rfl
theorem wm_F_294 : (Jvm.Cond.initialized "java/util/Arrays") ∈ al_F := List.mem_of_getElem? (i := 294) rfl
theorem wm_F_295 : (Jvm.Cond.static ({ cls := "java/util/Arrays", name := "fill", desc := "([JJ)V" } : Jvm.MethodName)) ∈ al_F := List.mem_of_getElem? (i := 295) rfl
theorem wm_F_296 : (Jvm.Cond.code ({ cls := "java/util/Arrays", name := "fill", desc := "([JJ)V" } : Jvm.MethodName) prog_14_method_101_code (5 : Nat) (Option.none : Option Jvm.ClassFile.FieldType)) ∈ al_F := List.mem_of_getElem? (i := 296) rfl
theorem wm_F_297 : (Jvm.Cond.initialized "java/lang/Math") ∈ al_F := List.mem_of_getElem? (i := 297) rfl
theorem wm_F_298 : (Jvm.Cond.static ({ cls := "java/lang/Math", name := "max", desc := "(II)I" } : Jvm.MethodName)) ∈ al_F := List.mem_of_getElem? (i := 298) rfl
theorem wm_F_299 : (Jvm.Cond.code ({ cls := "java/lang/Math", name := "max", desc := "(II)I" } : Jvm.MethodName) prog_10_method_65_code (2 : Nat) (Option.some Jvm.ClassFile.FieldType.int)) ∈ al_F := List.mem_of_getElem? (i := 299) rfl
theorem wm_F_300 : (Jvm.Cond.arrayClass Jvm.ClassFile.FieldType.long) ∈ al_F := List.mem_of_getElem? (i := 300) rfl
theorem wm_F_301 : (Jvm.Cond.initialized "HouseFunctions$Table") ∈ al_F := List.mem_of_getElem? (i := 301) rfl
theorem wm_F_302 : (Jvm.Cond.instantiable "HouseFunctions$Table" (3 : Nat)) ∈ al_F := List.mem_of_getElem? (i := 302) rfl
theorem wm_F_303 : (Jvm.Cond.instanceMethod ({ cls := "HouseFunctions$Table", name := "<init>", desc := "()V" } : Jvm.MethodName)) ∈ al_F := List.mem_of_getElem? (i := 303) rfl
theorem wm_F_304 : (Jvm.Cond.code ({ cls := "HouseFunctions$Table", name := "<init>", desc := "()V" } : Jvm.MethodName) prog_3_method_1_code (1 : Nat) (Option.none : Option Jvm.ClassFile.FieldType)) ∈ al_F := List.mem_of_getElem? (i := 304) rfl
theorem wm_F_305 : (Jvm.Cond.methodLink "HouseFunctions$Table" (3 : Nat) ({ cls := "java/lang/Object", name := "<init>", desc := "()V" } : Jvm.MethodName)) ∈ al_F := List.mem_of_getElem? (i := 305) rfl
theorem wm_F_306 : (Jvm.Cond.fieldLink "HouseFunctions$Table" (9 : Nat) "HouseFunctions$Table" "places" "[I") ∈ al_F := List.mem_of_getElem? (i := 306) rfl
theorem wm_F_307 : (Jvm.Cond.fieldLink "HouseFunctions$Table" (15 : Nat) "HouseFunctions$Table" "values" "[I") ∈ al_F := List.mem_of_getElem? (i := 307) rfl
theorem wm_F_308 : (Jvm.Cond.fieldLink "HouseFunctions$Table" (18 : Nat) "HouseFunctions$Table" "count" "I") ∈ al_F := List.mem_of_getElem? (i := 308) rfl
theorem wm_F_309 : (Jvm.Cond.laysFinal "HouseFunctions$Table" "HouseFunctions$Table" "places" "[I") ∈ al_F := List.mem_of_getElem? (i := 309) rfl
theorem wm_F_310 : (Jvm.Cond.laysFinal "HouseFunctions$Table" "HouseFunctions$Table" "values" "[I") ∈ al_F := List.mem_of_getElem? (i := 310) rfl
theorem wm_F_311 : (Jvm.Cond.lays "HouseFunctions$Table" "HouseFunctions$Table" "count" "I") ∈ al_F := List.mem_of_getElem? (i := 311) rfl
theorem wm_F_312 : (Jvm.Cond.instanceMethod ({ cls := "HouseFunctions$Table", name := "isFull", desc := "()Z" } : Jvm.MethodName)) ∈ al_F := List.mem_of_getElem? (i := 312) rfl
theorem wm_F_313 : (Jvm.Cond.selects "HouseFunctions$Table" ({ cls := "HouseFunctions$Table", name := "isFull", desc := "()Z" } : Jvm.MethodName) ({ cls := "HouseFunctions$Table", name := "isFull", desc := "()Z" } : Jvm.MethodName)) ∈ al_F := List.mem_of_getElem? (i := 313) rfl
theorem wm_F_314 : (Jvm.Cond.code ({ cls := "HouseFunctions$Table", name := "isFull", desc := "()Z" } : Jvm.MethodName) prog_3_method_2_code (1 : Nat) (Option.some Jvm.ClassFile.FieldType.boolean)) ∈ al_F := List.mem_of_getElem? (i := 314) rfl
theorem wm_F_315 : (Jvm.Cond.instanceMethod ({ cls := "HouseFunctions$Table", name := "append", desc := "(II)I" } : Jvm.MethodName)) ∈ al_F := List.mem_of_getElem? (i := 315) rfl
theorem wm_F_316 : (Jvm.Cond.selects "HouseFunctions$Table" ({ cls := "HouseFunctions$Table", name := "append", desc := "(II)I" } : Jvm.MethodName) ({ cls := "HouseFunctions$Table", name := "append", desc := "(II)I" } : Jvm.MethodName)) ∈ al_F := List.mem_of_getElem? (i := 316) rfl
theorem wm_F_317 : (Jvm.Cond.code ({ cls := "HouseFunctions$Table", name := "append", desc := "(II)I" } : Jvm.MethodName) prog_3_method_3_code (3 : Nat) (Option.some Jvm.ClassFile.FieldType.int)) ∈ al_F := List.mem_of_getElem? (i := 317) rfl
theorem wm_F_318 : (Jvm.Cond.methodLink "HouseFunctions$Table" (22 : Nat) ({ cls := "HouseFunctions$Table", name := "isFull", desc := "()Z" } : Jvm.MethodName)) ∈ al_F := List.mem_of_getElem? (i := 318) rfl
theorem wm_F_319 : (Jvm.Cond.instanceMethod ({ cls := "HouseFunctions$Table", name := "valueBy", desc := "(I)J" } : Jvm.MethodName)) ∈ al_F := List.mem_of_getElem? (i := 319) rfl
theorem wm_F_320 : (Jvm.Cond.selects "HouseFunctions$Table" ({ cls := "HouseFunctions$Table", name := "valueBy", desc := "(I)J" } : Jvm.MethodName) ({ cls := "HouseFunctions$Table", name := "valueBy", desc := "(I)J" } : Jvm.MethodName)) ∈ al_F := List.mem_of_getElem? (i := 320) rfl
theorem wm_F_321 : (Jvm.Cond.code ({ cls := "HouseFunctions$Table", name := "valueBy", desc := "(I)J" } : Jvm.MethodName) prog_3_method_4_code (3 : Nat) (Option.some Jvm.ClassFile.FieldType.long)) ∈ al_F := List.mem_of_getElem? (i := 321) rfl
theorem wm_F_322 : (Jvm.Cond.constantLong "HouseFunctions$Table" (26 : Nat) (-9223372036854775808 : Int64)) ∈ al_F := List.mem_of_getElem? (i := 322) rfl
theorem wm_F_323 : (Jvm.Cond.methodLink "HouseFunctions$Table" (28 : Nat) ({ cls := "HouseFunctions$Table", name := "valueBefore", desc := "(II)J" } : Jvm.MethodName)) ∈ al_F := List.mem_of_getElem? (i := 323) rfl
theorem wm_F_324 : (Jvm.Cond.instanceMethod ({ cls := "HouseFunctions$Table", name := "valueBefore", desc := "(II)J" } : Jvm.MethodName)) ∈ al_F := List.mem_of_getElem? (i := 324) rfl
theorem wm_F_325 : (Jvm.Cond.code ({ cls := "HouseFunctions$Table", name := "valueBefore", desc := "(II)J" } : Jvm.MethodName) prog_3_method_5_code (9 : Nat) (Option.some Jvm.ClassFile.FieldType.long)) ∈ al_F := List.mem_of_getElem? (i := 325) rfl
theorem wm_F_326 : (Jvm.Cond.methodLink "HouseFunctions$Table" (32 : Nat) ({ cls := "java/lang/Math", name := "floorDiv", desc := "(JJ)J" } : Jvm.MethodName)) ∈ al_F := List.mem_of_getElem? (i := 326) rfl
theorem wm_F_327 : (Jvm.Cond.selects "HouseFunctions$Table" ({ cls := "HouseFunctions$Table", name := "valueBefore", desc := "(II)J" } : Jvm.MethodName) ({ cls := "HouseFunctions$Table", name := "valueBefore", desc := "(II)J" } : Jvm.MethodName)) ∈ al_F := List.mem_of_getElem? (i := 327) rfl
theorem wm_F_328 : (Jvm.Cond.instanceMethod ({ cls := "java/lang/Object", name := "<init>", desc := "()V" } : Jvm.MethodName)) ∈ al_F := List.mem_of_getElem? (i := 328) rfl
theorem wm_F_329 : (Jvm.Cond.code ({ cls := "java/lang/Object", name := "<init>", desc := "()V" } : Jvm.MethodName) object_method_1_code (1 : Nat) (Option.none : Option Jvm.ClassFile.FieldType)) ∈ al_F := List.mem_of_getElem? (i := 329) rfl
theorem wm_F_330 : (Jvm.Cond.initialized "java/lang/Math") ∈ al_F := List.mem_of_getElem? (i := 330) rfl
theorem wm_F_331 : (Jvm.Cond.static ({ cls := "java/lang/Math", name := "floorDiv", desc := "(JJ)J" } : Jvm.MethodName)) ∈ al_F := List.mem_of_getElem? (i := 331) rfl
theorem wm_F_332 : (Jvm.Cond.code ({ cls := "java/lang/Math", name := "floorDiv", desc := "(JJ)J" } : Jvm.MethodName) prog_10_method_49_code (6 : Nat) (Option.some Jvm.ClassFile.FieldType.long)) ∈ al_F := List.mem_of_getElem? (i := 332) rfl
theorem wm_F_333 : (Jvm.Cond.arrayClass Jvm.ClassFile.FieldType.int) ∈ al_F := List.mem_of_getElem? (i := 333) rfl
def al_M : List Jvm.Cond := [(Jvm.Cond.initialized "HouseFunctionsModel"),
  (Jvm.Cond.instantiable "HouseFunctionsModel" (9 : Nat)),
  (Jvm.Cond.instanceMethod ({ cls := "HouseFunctionsModel", name := "<init>", desc := "(J)V" } : Jvm.MethodName)),
  (Jvm.Cond.code ({ cls := "HouseFunctionsModel", name := "<init>", desc := "(J)V" } : Jvm.MethodName) prog_6_method_1_code (3 : Nat) (Option.none : Option Jvm.ClassFile.FieldType)),
  (Jvm.Cond.methodLink "HouseFunctionsModel" (1 : Nat) ({ cls := "java/lang/Object", name := "<init>", desc := "()V" } : Jvm.MethodName)),
  (Jvm.Cond.fieldLink "HouseFunctionsModel" (34 : Nat) "HouseFunctionsModel" "thrown" "I"),
  (Jvm.Cond.fieldLink "HouseFunctionsModel" (30 : Nat) "HouseFunctionsModel" "seed" "J"),
  (Jvm.Cond.fieldLink "HouseFunctionsModel" (157 : Nat) "HouseFunctionsModel" "tables" "I"),
  (Jvm.Cond.fieldLink "HouseFunctionsModel" (7 : Nat) "HouseFunctionsModel" "rows" "[I"),
  (Jvm.Cond.fieldLink "HouseFunctionsModel" (13 : Nat) "HouseFunctionsModel" "places" "[I"),
  (Jvm.Cond.fieldLink "HouseFunctionsModel" (16 : Nat) "HouseFunctionsModel" "values" "[I"),
  (Jvm.Cond.fieldLink "HouseFunctionsModel" (19 : Nat) "HouseFunctionsModel" "f" "I"),
  (Jvm.Cond.fieldLink "HouseFunctionsModel" (23 : Nat) "HouseFunctionsModel" "parts" "[J"),
  (Jvm.Cond.fieldLink "HouseFunctionsModel" (27 : Nat) "HouseFunctionsModel" "product" "[J"),
  (Jvm.Cond.lays "HouseFunctionsModel" "HouseFunctionsModel" "thrown" "I"),
  (Jvm.Cond.laysFinal "HouseFunctionsModel" "HouseFunctionsModel" "seed" "J"),
  (Jvm.Cond.lays "HouseFunctionsModel" "HouseFunctionsModel" "tables" "I"),
  (Jvm.Cond.laysFinal "HouseFunctionsModel" "HouseFunctionsModel" "rows" "[I"),
  (Jvm.Cond.laysFinal "HouseFunctionsModel" "HouseFunctionsModel" "places" "[I"),
  (Jvm.Cond.laysFinal "HouseFunctionsModel" "HouseFunctionsModel" "values" "[I"),
  (Jvm.Cond.lays "HouseFunctionsModel" "HouseFunctionsModel" "f" "I"),
  (Jvm.Cond.laysFinal "HouseFunctionsModel" "HouseFunctionsModel" "parts" "[J"),
  (Jvm.Cond.laysFinal "HouseFunctionsModel" "HouseFunctionsModel" "product" "[J"),
  (Jvm.Cond.instanceMethod ({ cls := "HouseFunctionsModel", name := "thrown", desc := "()I" } : Jvm.MethodName)),
  (Jvm.Cond.selects "HouseFunctionsModel" ({ cls := "HouseFunctionsModel", name := "thrown", desc := "()I" } : Jvm.MethodName) ({ cls := "HouseFunctionsModel", name := "thrown", desc := "()I" } : Jvm.MethodName)),
  (Jvm.Cond.code ({ cls := "HouseFunctionsModel", name := "thrown", desc := "()I" } : Jvm.MethodName) prog_6_method_2_code (1 : Nat) (Option.some Jvm.ClassFile.FieldType.int)),
  (Jvm.Cond.instanceMethod ({ cls := "HouseFunctionsModel", name := "power", desc := "(I)J" } : Jvm.MethodName)),
  (Jvm.Cond.selects "HouseFunctionsModel" ({ cls := "HouseFunctionsModel", name := "power", desc := "(I)J" } : Jvm.MethodName) ({ cls := "HouseFunctionsModel", name := "power", desc := "(I)J" } : Jvm.MethodName)),
  (Jvm.Cond.code ({ cls := "HouseFunctionsModel", name := "power", desc := "(I)J" } : Jvm.MethodName) prog_6_method_23_code (5 : Nat) (Option.some Jvm.ClassFile.FieldType.long)),
  (Jvm.Cond.constant "HouseFunctionsModel" (100 : Nat) (-20000000 : Int32)),
  (Jvm.Cond.constant "HouseFunctionsModel" (101 : Nat) (20000000 : Int32)),
  (Jvm.Cond.constantLong "HouseFunctionsModel" (48 : Nat) (1000000000 : Int64)),
  (Jvm.Cond.constantLong "HouseFunctionsModel" (37 : Nat) (1000000 : Int64)),
  (Jvm.Cond.methodLink "HouseFunctionsModel" (77 : Nat) ({ cls := "HouseFunctionsModel", name := "ratio", desc := "(IJJ)V" } : Jvm.MethodName)),
  (Jvm.Cond.instanceMethod ({ cls := "HouseFunctionsModel", name := "ratio", desc := "(IJJ)V" } : Jvm.MethodName)),
  (Jvm.Cond.code ({ cls := "HouseFunctionsModel", name := "ratio", desc := "(IJJ)V" } : Jvm.MethodName) prog_6_method_11_code (6 : Nat) (Option.none : Option Jvm.ClassFile.FieldType)),
  (Jvm.Cond.methodLink "HouseFunctionsModel" (39 : Nat) ({ cls := "HouseFunctionsModel", name := "whole", desc := "(IJ)V" } : Jvm.MethodName)),
  (Jvm.Cond.instanceMethod ({ cls := "HouseFunctionsModel", name := "whole", desc := "(IJ)V" } : Jvm.MethodName)),
  (Jvm.Cond.code ({ cls := "HouseFunctionsModel", name := "whole", desc := "(IJ)V" } : Jvm.MethodName) prog_6_method_3_code (7 : Nat) (Option.none : Option Jvm.ClassFile.FieldType)),
  (Jvm.Cond.methodLink "HouseFunctionsModel" (43 : Nat) ({ cls := "HouseFunctionsModel", name := "by", desc := "(IJ)V" } : Jvm.MethodName)),
  (Jvm.Cond.instanceMethod ({ cls := "HouseFunctionsModel", name := "by", desc := "(IJ)V" } : Jvm.MethodName)),
  (Jvm.Cond.code ({ cls := "HouseFunctionsModel", name := "by", desc := "(IJ)V" } : Jvm.MethodName) prog_6_method_10_code (9 : Nat) (Option.none : Option Jvm.ClassFile.FieldType)),
  (Jvm.Cond.methodLink "HouseFunctionsModel" (102 : Nat) ({ cls := "HouseFunctionsModel", name := "powerOf", desc := "(Z)V" } : Jvm.MethodName)),
  (Jvm.Cond.instanceMethod ({ cls := "HouseFunctionsModel", name := "powerOf", desc := "(Z)V" } : Jvm.MethodName)),
  (Jvm.Cond.code ({ cls := "HouseFunctionsModel", name := "powerOf", desc := "(Z)V" } : Jvm.MethodName) prog_6_method_16_code (3 : Nat) (Option.none : Option Jvm.ClassFile.FieldType)),
  (Jvm.Cond.methodLink "HouseFunctionsModel" (57 : Nat) ({ cls := "HouseFunctionsModel", name := "copy", desc := "(II)V" } : Jvm.MethodName)),
  (Jvm.Cond.instanceMethod ({ cls := "HouseFunctionsModel", name := "copy", desc := "(II)V" } : Jvm.MethodName)),
  (Jvm.Cond.code ({ cls := "HouseFunctionsModel", name := "copy", desc := "(II)V" } : Jvm.MethodName) prog_6_method_4_code (4 : Nat) (Option.none : Option Jvm.ClassFile.FieldType)),
  (Jvm.Cond.constantLong "HouseFunctionsModel" (61 : Nat) (64 : Int64)),
  (Jvm.Cond.methodLink "HouseFunctionsModel" (63 : Nat) ({ cls := "HouseFunctionsModel", name := "isNothing", desc := "(I)Z" } : Jvm.MethodName)),
  (Jvm.Cond.instanceMethod ({ cls := "HouseFunctionsModel", name := "isNothing", desc := "(I)Z" } : Jvm.MethodName)),
  (Jvm.Cond.code ({ cls := "HouseFunctionsModel", name := "isNothing", desc := "(I)Z" } : Jvm.MethodName) prog_6_method_5_code (4 : Nat) (Option.some Jvm.ClassFile.FieldType.boolean)),
  (Jvm.Cond.methodLink "HouseFunctionsModel" (67 : Nat) ({ cls := "HouseFunctionsModel", name := "multiply", desc := "(III)V" } : Jvm.MethodName)),
  (Jvm.Cond.instanceMethod ({ cls := "HouseFunctionsModel", name := "multiply", desc := "(III)V" } : Jvm.MethodName)),
  (Jvm.Cond.code ({ cls := "HouseFunctionsModel", name := "multiply", desc := "(III)V" } : Jvm.MethodName) prog_6_method_12_code (9 : Nat) (Option.none : Option Jvm.ClassFile.FieldType)),
  (Jvm.Cond.methodLink "HouseFunctionsModel" (71 : Nat) ({ cls := "HouseFunctionsModel", name := "less", desc := "(II)V" } : Jvm.MethodName)),
  (Jvm.Cond.instanceMethod ({ cls := "HouseFunctionsModel", name := "less", desc := "(II)V" } : Jvm.MethodName)),
  (Jvm.Cond.code ({ cls := "HouseFunctionsModel", name := "less", desc := "(II)V" } : Jvm.MethodName) prog_6_method_7_code (8 : Nat) (Option.none : Option Jvm.ClassFile.FieldType)),
  (Jvm.Cond.methodLink "HouseFunctionsModel" (74 : Nat) ({ cls := "HouseFunctionsModel", name := "add", desc := "(II)V" } : Jvm.MethodName)),
  (Jvm.Cond.instanceMethod ({ cls := "HouseFunctionsModel", name := "add", desc := "(II)V" } : Jvm.MethodName)),
  (Jvm.Cond.code ({ cls := "HouseFunctionsModel", name := "add", desc := "(II)V" } : Jvm.MethodName) prog_6_method_6_code (8 : Nat) (Option.none : Option Jvm.ClassFile.FieldType)),
  (Jvm.Cond.methodLink "HouseFunctionsModel" (106 : Nat) ({ cls := "HouseFunctionsModel", name := "told", desc := "(IZ)J" } : Jvm.MethodName)),
  (Jvm.Cond.instanceMethod ({ cls := "HouseFunctionsModel", name := "told", desc := "(IZ)J" } : Jvm.MethodName)),
  (Jvm.Cond.code ({ cls := "HouseFunctionsModel", name := "told", desc := "(IZ)J" } : Jvm.MethodName) prog_6_method_15_code (3 : Nat) (Option.some Jvm.ClassFile.FieldType.long)),
  (Jvm.Cond.methodLink "HouseFunctionsModel" (50 : Nat) ({ cls := "HouseFunctionsModel", name := "times", desc := "(IJ)V" } : Jvm.MethodName)),
  (Jvm.Cond.instanceMethod ({ cls := "HouseFunctionsModel", name := "times", desc := "(IJ)V" } : Jvm.MethodName)),
  (Jvm.Cond.code ({ cls := "HouseFunctionsModel", name := "times", desc := "(IJ)V" } : Jvm.MethodName) prog_6_method_9_code (9 : Nat) (Option.none : Option Jvm.ClassFile.FieldType)),
  (Jvm.Cond.methodLink "HouseFunctionsModel" (53 : Nat) ({ cls := "HouseFunctionsModel", name := "before", desc := "(I)J" } : Jvm.MethodName)),
  (Jvm.Cond.instanceMethod ({ cls := "HouseFunctionsModel", name := "before", desc := "(I)J" } : Jvm.MethodName)),
  (Jvm.Cond.code ({ cls := "HouseFunctionsModel", name := "before", desc := "(I)J" } : Jvm.MethodName) prog_6_method_14_code (5 : Nat) (Option.some Jvm.ClassFile.FieldType.long)),
  (Jvm.Cond.methodLink "HouseFunctionsModel" (110 : Nat) ({ cls := "HouseFunctionsModel", name := "isOpen", desc := "(I)Z" } : Jvm.MethodName)),
  (Jvm.Cond.instanceMethod ({ cls := "HouseFunctionsModel", name := "isOpen", desc := "(I)Z" } : Jvm.MethodName)),
  (Jvm.Cond.code ({ cls := "HouseFunctionsModel", name := "isOpen", desc := "(I)Z" } : Jvm.MethodName) prog_6_method_13_code (5 : Nat) (Option.some Jvm.ClassFile.FieldType.boolean)),
  (Jvm.Cond.constantLong "HouseFunctionsModel" (46 : Nat) (999999 : Int64)),
  (Jvm.Cond.instanceMethod ({ cls := "HouseFunctionsModel", name := "logarithm", desc := "(J)J" } : Jvm.MethodName)),
  (Jvm.Cond.selects "HouseFunctionsModel" ({ cls := "HouseFunctionsModel", name := "logarithm", desc := "(J)J" } : Jvm.MethodName) ({ cls := "HouseFunctionsModel", name := "logarithm", desc := "(J)J" } : Jvm.MethodName)),
  (Jvm.Cond.code ({ cls := "HouseFunctionsModel", name := "logarithm", desc := "(J)J" } : Jvm.MethodName) prog_6_method_24_code (7 : Nat) (Option.some Jvm.ClassFile.FieldType.long)),
  (Jvm.Cond.constantLong "HouseFunctionsModel" (113 : Nat) (1000000000000 : Int64)),
  (Jvm.Cond.constantLong "HouseFunctionsModel" (115 : Nat) (-9223372036854775808 : Int64)),
  (Jvm.Cond.methodLink "HouseFunctionsModel" (117 : Nat) ({ cls := "HouseFunctionsModel", name := "logarithmOf", desc := "(J)V" } : Jvm.MethodName)),
  (Jvm.Cond.instanceMethod ({ cls := "HouseFunctionsModel", name := "logarithmOf", desc := "(J)V" } : Jvm.MethodName)),
  (Jvm.Cond.code ({ cls := "HouseFunctionsModel", name := "logarithmOf", desc := "(J)V" } : Jvm.MethodName) prog_6_method_18_code (6 : Nat) (Option.none : Option Jvm.ClassFile.FieldType)),
  (Jvm.Cond.constantLong "HouseFunctionsModel" (81 : Nat) (2 : Int64)),
  (Jvm.Cond.constantLong "HouseFunctionsModel" (83 : Nat) (3 : Int64)),
  (Jvm.Cond.methodLink "HouseFunctionsModel" (85 : Nat) ({ cls := "HouseFunctionsModel", name := "raised", desc := "(JJ)V" } : Jvm.MethodName)),
  (Jvm.Cond.instanceMethod ({ cls := "HouseFunctionsModel", name := "raised", desc := "(JJ)V" } : Jvm.MethodName)),
  (Jvm.Cond.code ({ cls := "HouseFunctionsModel", name := "raised", desc := "(JJ)V" } : Jvm.MethodName) prog_6_method_17_code (6 : Nat) (Option.none : Option Jvm.ClassFile.FieldType)),
  (Jvm.Cond.instanceMethod ({ cls := "HouseFunctionsModel", name := "sine", desc := "(I)J" } : Jvm.MethodName)),
  (Jvm.Cond.selects "HouseFunctionsModel" ({ cls := "HouseFunctionsModel", name := "sine", desc := "(I)J" } : Jvm.MethodName) ({ cls := "HouseFunctionsModel", name := "sine", desc := "(I)J" } : Jvm.MethodName)),
  (Jvm.Cond.code ({ cls := "HouseFunctionsModel", name := "sine", desc := "(I)J" } : Jvm.MethodName) prog_6_method_26_code (2 : Nat) (Option.some Jvm.ClassFile.FieldType.long)),
  (Jvm.Cond.methodLink "HouseFunctionsModel" (133 : Nat) ({ cls := "HouseFunctionsModel", name := "wave", desc := "(IZ)J" } : Jvm.MethodName)),
  (Jvm.Cond.instanceMethod ({ cls := "HouseFunctionsModel", name := "wave", desc := "(IZ)J" } : Jvm.MethodName)),
  (Jvm.Cond.code ({ cls := "HouseFunctionsModel", name := "wave", desc := "(IZ)J" } : Jvm.MethodName) prog_6_method_25_code (7 : Nat) (Option.some Jvm.ClassFile.FieldType.long)),
  (Jvm.Cond.constant "HouseFunctionsModel" (121 : Nat) (-100000000 : Int32)),
  (Jvm.Cond.constant "HouseFunctionsModel" (122 : Nat) (100000000 : Int32)),
  (Jvm.Cond.methodLink "HouseFunctionsModel" (123 : Nat) ({ cls := "HouseFunctionsModel", name := "half", desc := "()V" } : Jvm.MethodName)),
  (Jvm.Cond.instanceMethod ({ cls := "HouseFunctionsModel", name := "half", desc := "()V" } : Jvm.MethodName)),
  (Jvm.Cond.code ({ cls := "HouseFunctionsModel", name := "half", desc := "()V" } : Jvm.MethodName) prog_6_method_20_code (1 : Nat) (Option.none : Option Jvm.ClassFile.FieldType)),
  (Jvm.Cond.constantLong "HouseFunctionsModel" (89 : Nat) (5 : Int64)),
  (Jvm.Cond.constantLong "HouseFunctionsModel" (91 : Nat) (16 : Int64)),
  (Jvm.Cond.methodLink "HouseFunctionsModel" (93 : Nat) ({ cls := "HouseFunctionsModel", name := "angleOfOne", desc := "(IJJ)V" } : Jvm.MethodName)),
  (Jvm.Cond.instanceMethod ({ cls := "HouseFunctionsModel", name := "angleOfOne", desc := "(IJJ)V" } : Jvm.MethodName)),
  (Jvm.Cond.code ({ cls := "HouseFunctionsModel", name := "angleOfOne", desc := "(IJJ)V" } : Jvm.MethodName) prog_6_method_19_code (7 : Nat) (Option.none : Option Jvm.ClassFile.FieldType)),
  (Jvm.Cond.constantLong "HouseFunctionsModel" (96 : Nat) (239 : Int64)),
  (Jvm.Cond.constantLong "HouseFunctionsModel" (98 : Nat) (4 : Int64)),
  (Jvm.Cond.methodLink "HouseFunctionsModel" (126 : Nat) ({ cls := "HouseFunctionsModel", name := "against", desc := "(II)I" } : Jvm.MethodName)),
  (Jvm.Cond.instanceMethod ({ cls := "HouseFunctionsModel", name := "against", desc := "(II)I" } : Jvm.MethodName)),
  (Jvm.Cond.code ({ cls := "HouseFunctionsModel", name := "against", desc := "(II)I" } : Jvm.MethodName) prog_6_method_8_code (8 : Nat) (Option.some Jvm.ClassFile.FieldType.int)),
  (Jvm.Cond.methodLink "HouseFunctionsModel" (130 : Nat) ({ cls := "HouseFunctionsModel", name := "quarter", desc := "(Z)V" } : Jvm.MethodName)),
  (Jvm.Cond.instanceMethod ({ cls := "HouseFunctionsModel", name := "quarter", desc := "(Z)V" } : Jvm.MethodName)),
  (Jvm.Cond.code ({ cls := "HouseFunctionsModel", name := "quarter", desc := "(Z)V" } : Jvm.MethodName) prog_6_method_22_code (3 : Nat) (Option.none : Option Jvm.ClassFile.FieldType)),
  (Jvm.Cond.instanceMethod ({ cls := "HouseFunctionsModel", name := "cosine", desc := "(I)J" } : Jvm.MethodName)),
  (Jvm.Cond.selects "HouseFunctionsModel" ({ cls := "HouseFunctionsModel", name := "cosine", desc := "(I)J" } : Jvm.MethodName) ({ cls := "HouseFunctionsModel", name := "cosine", desc := "(I)J" } : Jvm.MethodName)),
  (Jvm.Cond.code ({ cls := "HouseFunctionsModel", name := "cosine", desc := "(I)J" } : Jvm.MethodName) prog_6_method_27_code (2 : Nat) (Option.some Jvm.ClassFile.FieldType.long)),
  (Jvm.Cond.instanceMethod ({ cls := "HouseFunctionsModel", name := "angle", desc := "(II)J" } : Jvm.MethodName)),
  (Jvm.Cond.selects "HouseFunctionsModel" ({ cls := "HouseFunctionsModel", name := "angle", desc := "(II)J" } : Jvm.MethodName) ({ cls := "HouseFunctionsModel", name := "angle", desc := "(II)J" } : Jvm.MethodName)),
  (Jvm.Cond.code ({ cls := "HouseFunctionsModel", name := "angle", desc := "(II)J" } : Jvm.MethodName) prog_6_method_28_code (10 : Nat) (Option.some Jvm.ClassFile.FieldType.long)),
  (Jvm.Cond.constant "HouseFunctionsModel" (136 : Nat) (-1000000 : Int32)),
  (Jvm.Cond.constant "HouseFunctionsModel" (137 : Nat) (1000000 : Int32)),
  (Jvm.Cond.methodLink "HouseFunctionsModel" (138 : Nat) ({ cls := "HouseFunctionsModel", name := "angleOf", desc := "(JJ)V" } : Jvm.MethodName)),
  (Jvm.Cond.instanceMethod ({ cls := "HouseFunctionsModel", name := "angleOf", desc := "(JJ)V" } : Jvm.MethodName)),
  (Jvm.Cond.code ({ cls := "HouseFunctionsModel", name := "angleOf", desc := "(JJ)V" } : Jvm.MethodName) prog_6_method_21_code (8 : Nat) (Option.none : Option Jvm.ClassFile.FieldType)),
  (Jvm.Cond.instanceMethod ({ cls := "HouseFunctionsModel", name := "root", desc := "(JI)J" } : Jvm.MethodName)),
  (Jvm.Cond.selects "HouseFunctionsModel" ({ cls := "HouseFunctionsModel", name := "root", desc := "(JI)J" } : Jvm.MethodName) ({ cls := "HouseFunctionsModel", name := "root", desc := "(JI)J" } : Jvm.MethodName)),
  (Jvm.Cond.code ({ cls := "HouseFunctionsModel", name := "root", desc := "(JI)J" } : Jvm.MethodName) prog_6_method_29_code (11 : Nat) (Option.some Jvm.ClassFile.FieldType.long)),
  (Jvm.Cond.constantLong "HouseFunctionsModel" (141 : Nat) (1000 : Int64)),
  (Jvm.Cond.constantLong "HouseFunctionsModel" (143 : Nat) (1000000000001 : Int64)),
  (Jvm.Cond.instanceMethod ({ cls := "HouseFunctionsModel", name := "damp", desc := "(II)J" } : Jvm.MethodName)),
  (Jvm.Cond.selects "HouseFunctionsModel" ({ cls := "HouseFunctionsModel", name := "damp", desc := "(II)J" } : Jvm.MethodName) ({ cls := "HouseFunctionsModel", name := "damp", desc := "(II)J" } : Jvm.MethodName)),
  (Jvm.Cond.code ({ cls := "HouseFunctionsModel", name := "damp", desc := "(II)J" } : Jvm.MethodName) prog_6_method_32_code (3 : Nat) (Option.some Jvm.ClassFile.FieldType.long)),
  (Jvm.Cond.methodLink "HouseFunctionsModel" (149 : Nat) ({ cls := "HouseFunctionsModel", name := "isWarmth", desc := "(I)Z" } : Jvm.MethodName)),
  (Jvm.Cond.static ({ cls := "HouseFunctionsModel", name := "isWarmth", desc := "(I)Z" } : Jvm.MethodName)),
  (Jvm.Cond.code ({ cls := "HouseFunctionsModel", name := "isWarmth", desc := "(I)Z" } : Jvm.MethodName) prog_6_method_31_code (1 : Nat) (Option.some Jvm.ClassFile.FieldType.boolean)),
  (Jvm.Cond.methodLink "HouseFunctionsModel" (152 : Nat) ({ cls := "HouseFunctionsModel", name := "pressure", desc := "(II)J" } : Jvm.MethodName)),
  (Jvm.Cond.instanceMethod ({ cls := "HouseFunctionsModel", name := "pressure", desc := "(II)J" } : Jvm.MethodName)),
  (Jvm.Cond.code ({ cls := "HouseFunctionsModel", name := "pressure", desc := "(II)J" } : Jvm.MethodName) prog_6_method_30_code (6 : Nat) (Option.some Jvm.ClassFile.FieldType.long)),
  (Jvm.Cond.constantLong "HouseFunctionsModel" (145 : Nat) (61094 : Int64)),
  (Jvm.Cond.constantLong "HouseFunctionsModel" (147 : Nat) (17625 : Int64)),
  (Jvm.Cond.instanceMethod ({ cls := "HouseFunctionsModel", name := "dew", desc := "(I)J" } : Jvm.MethodName)),
  (Jvm.Cond.selects "HouseFunctionsModel" ({ cls := "HouseFunctionsModel", name := "dew", desc := "(I)J" } : Jvm.MethodName) ({ cls := "HouseFunctionsModel", name := "dew", desc := "(I)J" } : Jvm.MethodName)),
  (Jvm.Cond.code ({ cls := "HouseFunctionsModel", name := "dew", desc := "(I)J" } : Jvm.MethodName) prog_6_method_33_code (5 : Nat) (Option.some Jvm.ClassFile.FieldType.long)),
  (Jvm.Cond.constant "HouseFunctionsModel" (156 : Nat) (1000000000 : Int32)),
  (Jvm.Cond.instanceMethod ({ cls := "HouseFunctionsModel", name := "table", desc := "()I" } : Jvm.MethodName)),
  (Jvm.Cond.selects "HouseFunctionsModel" ({ cls := "HouseFunctionsModel", name := "table", desc := "()I" } : Jvm.MethodName) ({ cls := "HouseFunctionsModel", name := "table", desc := "()I" } : Jvm.MethodName)),
  (Jvm.Cond.code ({ cls := "HouseFunctionsModel", name := "table", desc := "()I" } : Jvm.MethodName) prog_6_method_34_code (1 : Nat) (Option.some Jvm.ClassFile.FieldType.int)),
  (Jvm.Cond.instanceMethod ({ cls := "HouseFunctionsModel", name := "row", desc := "(III)I" } : Jvm.MethodName)),
  (Jvm.Cond.selects "HouseFunctionsModel" ({ cls := "HouseFunctionsModel", name := "row", desc := "(III)I" } : Jvm.MethodName) ({ cls := "HouseFunctionsModel", name := "row", desc := "(III)I" } : Jvm.MethodName)),
  (Jvm.Cond.code ({ cls := "HouseFunctionsModel", name := "row", desc := "(III)I" } : Jvm.MethodName) prog_6_method_37_code (5 : Nat) (Option.some Jvm.ClassFile.FieldType.int)),
  (Jvm.Cond.methodLink "HouseFunctionsModel" (161 : Nat) ({ cls := "HouseFunctionsModel", name := "isTable", desc := "(I)Z" } : Jvm.MethodName)),
  (Jvm.Cond.instanceMethod ({ cls := "HouseFunctionsModel", name := "isTable", desc := "(I)Z" } : Jvm.MethodName)),
  (Jvm.Cond.code ({ cls := "HouseFunctionsModel", name := "isTable", desc := "(I)Z" } : Jvm.MethodName) prog_6_method_36_code (2 : Nat) (Option.some Jvm.ClassFile.FieldType.boolean)),
  (Jvm.Cond.methodLink "HouseFunctionsModel" (164 : Nat) ({ cls := "HouseFunctionsModel", name := "isNumber", desc := "(I)Z" } : Jvm.MethodName)),
  (Jvm.Cond.static ({ cls := "HouseFunctionsModel", name := "isNumber", desc := "(I)Z" } : Jvm.MethodName)),
  (Jvm.Cond.code ({ cls := "HouseFunctionsModel", name := "isNumber", desc := "(I)Z" } : Jvm.MethodName) prog_6_method_35_code (1 : Nat) (Option.some Jvm.ClassFile.FieldType.boolean)),
  (Jvm.Cond.constant "HouseFunctionsModel" (160 : Nat) (-1000000000 : Int32)),
  (Jvm.Cond.instanceMethod ({ cls := "HouseFunctionsModel", name := "at", desc := "(II)J" } : Jvm.MethodName)),
  (Jvm.Cond.selects "HouseFunctionsModel" ({ cls := "HouseFunctionsModel", name := "at", desc := "(II)J" } : Jvm.MethodName) ({ cls := "HouseFunctionsModel", name := "at", desc := "(II)J" } : Jvm.MethodName)),
  (Jvm.Cond.code ({ cls := "HouseFunctionsModel", name := "at", desc := "(II)J" } : Jvm.MethodName) prog_6_method_40_code (3 : Nat) (Option.some Jvm.ClassFile.FieldType.long)),
  (Jvm.Cond.methodLink "HouseFunctionsModel" (171 : Nat) ({ cls := "HouseFunctionsModel", name := "valueAt", desc := "(II)J" } : Jvm.MethodName)),
  (Jvm.Cond.instanceMethod ({ cls := "HouseFunctionsModel", name := "valueAt", desc := "(II)J" } : Jvm.MethodName)),
  (Jvm.Cond.code ({ cls := "HouseFunctionsModel", name := "valueAt", desc := "(II)J" } : Jvm.MethodName) prog_6_method_39_code (10 : Nat) (Option.some Jvm.ClassFile.FieldType.long)),
  (Jvm.Cond.methodLink "HouseFunctionsModel" (167 : Nat) ({ cls := "HouseFunctionsModel", name := "down", desc := "(JJ)J" } : Jvm.MethodName)),
  (Jvm.Cond.static ({ cls := "HouseFunctionsModel", name := "down", desc := "(JJ)J" } : Jvm.MethodName)),
  (Jvm.Cond.code ({ cls := "HouseFunctionsModel", name := "down", desc := "(JJ)J" } : Jvm.MethodName) prog_6_method_38_code (6 : Nat) (Option.some Jvm.ClassFile.FieldType.long)),
  (Jvm.Cond.instanceMethod ({ cls := "HouseFunctionsModel", name := "join", desc := "(III)J" } : Jvm.MethodName)),
  (Jvm.Cond.selects "HouseFunctionsModel" ({ cls := "HouseFunctionsModel", name := "join", desc := "(III)J" } : Jvm.MethodName) ({ cls := "HouseFunctionsModel", name := "join", desc := "(III)J" } : Jvm.MethodName)),
  (Jvm.Cond.code ({ cls := "HouseFunctionsModel", name := "join", desc := "(III)J" } : Jvm.MethodName) prog_6_method_41_code (8 : Nat) (Option.some Jvm.ClassFile.FieldType.long)),
  (Jvm.Cond.instanceMethod ({ cls := "HouseFunctionsModel", name := "drawn", desc := "(JI)I" } : Jvm.MethodName)),
  (Jvm.Cond.selects "HouseFunctionsModel" ({ cls := "HouseFunctionsModel", name := "drawn", desc := "(JI)I" } : Jvm.MethodName) ({ cls := "HouseFunctionsModel", name := "drawn", desc := "(JI)I" } : Jvm.MethodName)),
  (Jvm.Cond.code ({ cls := "HouseFunctionsModel", name := "drawn", desc := "(JI)I" } : Jvm.MethodName) prog_6_method_42_code (6 : Nat) (Option.some Jvm.ClassFile.FieldType.int)),
  (Jvm.Cond.constantLong "HouseFunctionsModel" (174 : Nat) (-7046029254386353131 : Int64)),
  (Jvm.Cond.constantLong "HouseFunctionsModel" (176 : Nat) (-3335678366873096957 : Int64)),
  (Jvm.Cond.constantLong "HouseFunctionsModel" (178 : Nat) (-4658895280553007687 : Int64)),
  (Jvm.Cond.constantLong "HouseFunctionsModel" (180 : Nat) (-7723592293110705685 : Int64)),
  (Jvm.Cond.selects "HouseFunctionsModel" ({ cls := "HouseFunctionsModel", name := "ratio", desc := "(IJJ)V" } : Jvm.MethodName) ({ cls := "HouseFunctionsModel", name := "ratio", desc := "(IJJ)V" } : Jvm.MethodName)),
  (Jvm.Cond.selects "HouseFunctionsModel" ({ cls := "HouseFunctionsModel", name := "whole", desc := "(IJ)V" } : Jvm.MethodName) ({ cls := "HouseFunctionsModel", name := "whole", desc := "(IJ)V" } : Jvm.MethodName)),
  (Jvm.Cond.selects "HouseFunctionsModel" ({ cls := "HouseFunctionsModel", name := "by", desc := "(IJ)V" } : Jvm.MethodName) ({ cls := "HouseFunctionsModel", name := "by", desc := "(IJ)V" } : Jvm.MethodName)),
  (Jvm.Cond.selects "HouseFunctionsModel" ({ cls := "HouseFunctionsModel", name := "powerOf", desc := "(Z)V" } : Jvm.MethodName) ({ cls := "HouseFunctionsModel", name := "powerOf", desc := "(Z)V" } : Jvm.MethodName)),
  (Jvm.Cond.selects "HouseFunctionsModel" ({ cls := "HouseFunctionsModel", name := "copy", desc := "(II)V" } : Jvm.MethodName) ({ cls := "HouseFunctionsModel", name := "copy", desc := "(II)V" } : Jvm.MethodName)),
  (Jvm.Cond.selects "HouseFunctionsModel" ({ cls := "HouseFunctionsModel", name := "isNothing", desc := "(I)Z" } : Jvm.MethodName) ({ cls := "HouseFunctionsModel", name := "isNothing", desc := "(I)Z" } : Jvm.MethodName)),
  (Jvm.Cond.selects "HouseFunctionsModel" ({ cls := "HouseFunctionsModel", name := "multiply", desc := "(III)V" } : Jvm.MethodName) ({ cls := "HouseFunctionsModel", name := "multiply", desc := "(III)V" } : Jvm.MethodName)),
  (Jvm.Cond.selects "HouseFunctionsModel" ({ cls := "HouseFunctionsModel", name := "less", desc := "(II)V" } : Jvm.MethodName) ({ cls := "HouseFunctionsModel", name := "less", desc := "(II)V" } : Jvm.MethodName)),
  (Jvm.Cond.selects "HouseFunctionsModel" ({ cls := "HouseFunctionsModel", name := "add", desc := "(II)V" } : Jvm.MethodName) ({ cls := "HouseFunctionsModel", name := "add", desc := "(II)V" } : Jvm.MethodName)),
  (Jvm.Cond.selects "HouseFunctionsModel" ({ cls := "HouseFunctionsModel", name := "told", desc := "(IZ)J" } : Jvm.MethodName) ({ cls := "HouseFunctionsModel", name := "told", desc := "(IZ)J" } : Jvm.MethodName)),
  (Jvm.Cond.selects "HouseFunctionsModel" ({ cls := "HouseFunctionsModel", name := "times", desc := "(IJ)V" } : Jvm.MethodName) ({ cls := "HouseFunctionsModel", name := "times", desc := "(IJ)V" } : Jvm.MethodName)),
  (Jvm.Cond.selects "HouseFunctionsModel" ({ cls := "HouseFunctionsModel", name := "before", desc := "(I)J" } : Jvm.MethodName) ({ cls := "HouseFunctionsModel", name := "before", desc := "(I)J" } : Jvm.MethodName)),
  (Jvm.Cond.selects "HouseFunctionsModel" ({ cls := "HouseFunctionsModel", name := "isOpen", desc := "(I)Z" } : Jvm.MethodName) ({ cls := "HouseFunctionsModel", name := "isOpen", desc := "(I)Z" } : Jvm.MethodName)),
  (Jvm.Cond.selects "HouseFunctionsModel" ({ cls := "HouseFunctionsModel", name := "logarithmOf", desc := "(J)V" } : Jvm.MethodName) ({ cls := "HouseFunctionsModel", name := "logarithmOf", desc := "(J)V" } : Jvm.MethodName)),
  (Jvm.Cond.selects "HouseFunctionsModel" ({ cls := "HouseFunctionsModel", name := "raised", desc := "(JJ)V" } : Jvm.MethodName) ({ cls := "HouseFunctionsModel", name := "raised", desc := "(JJ)V" } : Jvm.MethodName)),
  (Jvm.Cond.selects "HouseFunctionsModel" ({ cls := "HouseFunctionsModel", name := "wave", desc := "(IZ)J" } : Jvm.MethodName) ({ cls := "HouseFunctionsModel", name := "wave", desc := "(IZ)J" } : Jvm.MethodName)),
  (Jvm.Cond.selects "HouseFunctionsModel" ({ cls := "HouseFunctionsModel", name := "half", desc := "()V" } : Jvm.MethodName) ({ cls := "HouseFunctionsModel", name := "half", desc := "()V" } : Jvm.MethodName)),
  (Jvm.Cond.selects "HouseFunctionsModel" ({ cls := "HouseFunctionsModel", name := "angleOfOne", desc := "(IJJ)V" } : Jvm.MethodName) ({ cls := "HouseFunctionsModel", name := "angleOfOne", desc := "(IJJ)V" } : Jvm.MethodName)),
  (Jvm.Cond.selects "HouseFunctionsModel" ({ cls := "HouseFunctionsModel", name := "against", desc := "(II)I" } : Jvm.MethodName) ({ cls := "HouseFunctionsModel", name := "against", desc := "(II)I" } : Jvm.MethodName)),
  (Jvm.Cond.selects "HouseFunctionsModel" ({ cls := "HouseFunctionsModel", name := "quarter", desc := "(Z)V" } : Jvm.MethodName) ({ cls := "HouseFunctionsModel", name := "quarter", desc := "(Z)V" } : Jvm.MethodName)),
  (Jvm.Cond.selects "HouseFunctionsModel" ({ cls := "HouseFunctionsModel", name := "angleOf", desc := "(JJ)V" } : Jvm.MethodName) ({ cls := "HouseFunctionsModel", name := "angleOf", desc := "(JJ)V" } : Jvm.MethodName)),
  (Jvm.Cond.selects "HouseFunctionsModel" ({ cls := "HouseFunctionsModel", name := "pressure", desc := "(II)J" } : Jvm.MethodName) ({ cls := "HouseFunctionsModel", name := "pressure", desc := "(II)J" } : Jvm.MethodName)),
  (Jvm.Cond.selects "HouseFunctionsModel" ({ cls := "HouseFunctionsModel", name := "isTable", desc := "(I)Z" } : Jvm.MethodName) ({ cls := "HouseFunctionsModel", name := "isTable", desc := "(I)Z" } : Jvm.MethodName)),
  (Jvm.Cond.selects "HouseFunctionsModel" ({ cls := "HouseFunctionsModel", name := "valueAt", desc := "(II)J" } : Jvm.MethodName) ({ cls := "HouseFunctionsModel", name := "valueAt", desc := "(II)J" } : Jvm.MethodName)),
  (Jvm.Cond.instanceMethod ({ cls := "java/lang/Object", name := "<init>", desc := "()V" } : Jvm.MethodName)),
  (Jvm.Cond.code ({ cls := "java/lang/Object", name := "<init>", desc := "()V" } : Jvm.MethodName) object_method_1_code (1 : Nat) (Option.none : Option Jvm.ClassFile.FieldType)),
  (Jvm.Cond.arrayClass Jvm.ClassFile.FieldType.int),
  (Jvm.Cond.arrayClass Jvm.ClassFile.FieldType.long)]
set_option maxRecDepth 20000 in
theorem ag_M : al_M.all goodWord = true := by decide +kernel
set_option maxRecDepth 20000 in
theorem ui_M : ∀ w ∈ u_ws R_M F_M 9, w ∈ al_M := by decide +kernel
theorem sb_M_M : ∀ w ∈ al_M, w ∈ al_M := fun _ h => h
theorem wm_M_0 : (Jvm.Cond.initialized "HouseFunctionsModel") ∈ al_M := List.mem_of_getElem? (i := 0) rfl
theorem wm_M_1 : (Jvm.Cond.instantiable "HouseFunctionsModel" (9 : Nat)) ∈ al_M := List.mem_of_getElem? (i := 1) rfl
theorem wm_M_2 : (Jvm.Cond.instanceMethod ({ cls := "HouseFunctionsModel", name := "<init>", desc := "(J)V" } : Jvm.MethodName)) ∈ al_M := List.mem_of_getElem? (i := 2) rfl
theorem wm_M_3 : (Jvm.Cond.code ({ cls := "HouseFunctionsModel", name := "<init>", desc := "(J)V" } : Jvm.MethodName) prog_6_method_1_code (3 : Nat) (Option.none : Option Jvm.ClassFile.FieldType)) ∈ al_M := List.mem_of_getElem? (i := 3) rfl
theorem wm_M_4 : (Jvm.Cond.methodLink "HouseFunctionsModel" (1 : Nat) ({ cls := "java/lang/Object", name := "<init>", desc := "()V" } : Jvm.MethodName)) ∈ al_M := List.mem_of_getElem? (i := 4) rfl
theorem wm_M_5 : (Jvm.Cond.fieldLink "HouseFunctionsModel" (34 : Nat) "HouseFunctionsModel" "thrown" "I") ∈ al_M := List.mem_of_getElem? (i := 5) rfl
theorem wm_M_6 : (Jvm.Cond.fieldLink "HouseFunctionsModel" (30 : Nat) "HouseFunctionsModel" "seed" "J") ∈ al_M := List.mem_of_getElem? (i := 6) rfl
theorem wm_M_7 : (Jvm.Cond.fieldLink "HouseFunctionsModel" (157 : Nat) "HouseFunctionsModel" "tables" "I") ∈ al_M := List.mem_of_getElem? (i := 7) rfl
theorem wm_M_8 : (Jvm.Cond.fieldLink "HouseFunctionsModel" (7 : Nat) "HouseFunctionsModel" "rows" "[I") ∈ al_M := List.mem_of_getElem? (i := 8) rfl
theorem wm_M_9 : (Jvm.Cond.fieldLink "HouseFunctionsModel" (13 : Nat) "HouseFunctionsModel" "places" "[I") ∈ al_M := List.mem_of_getElem? (i := 9) rfl
theorem wm_M_10 : (Jvm.Cond.fieldLink "HouseFunctionsModel" (16 : Nat) "HouseFunctionsModel" "values" "[I") ∈ al_M := List.mem_of_getElem? (i := 10) rfl
theorem wm_M_11 : (Jvm.Cond.fieldLink "HouseFunctionsModel" (19 : Nat) "HouseFunctionsModel" "f" "I") ∈ al_M := List.mem_of_getElem? (i := 11) rfl
theorem wm_M_12 : (Jvm.Cond.fieldLink "HouseFunctionsModel" (23 : Nat) "HouseFunctionsModel" "parts" "[J") ∈ al_M := List.mem_of_getElem? (i := 12) rfl
theorem wm_M_13 : (Jvm.Cond.fieldLink "HouseFunctionsModel" (27 : Nat) "HouseFunctionsModel" "product" "[J") ∈ al_M := List.mem_of_getElem? (i := 13) rfl
theorem wm_M_14 : (Jvm.Cond.lays "HouseFunctionsModel" "HouseFunctionsModel" "thrown" "I") ∈ al_M := List.mem_of_getElem? (i := 14) rfl
theorem wm_M_15 : (Jvm.Cond.laysFinal "HouseFunctionsModel" "HouseFunctionsModel" "seed" "J") ∈ al_M := List.mem_of_getElem? (i := 15) rfl
theorem wm_M_16 : (Jvm.Cond.lays "HouseFunctionsModel" "HouseFunctionsModel" "tables" "I") ∈ al_M := List.mem_of_getElem? (i := 16) rfl
theorem wm_M_17 : (Jvm.Cond.laysFinal "HouseFunctionsModel" "HouseFunctionsModel" "rows" "[I") ∈ al_M := List.mem_of_getElem? (i := 17) rfl
theorem wm_M_18 : (Jvm.Cond.laysFinal "HouseFunctionsModel" "HouseFunctionsModel" "places" "[I") ∈ al_M := List.mem_of_getElem? (i := 18) rfl
theorem wm_M_19 : (Jvm.Cond.laysFinal "HouseFunctionsModel" "HouseFunctionsModel" "values" "[I") ∈ al_M := List.mem_of_getElem? (i := 19) rfl
theorem wm_M_20 : (Jvm.Cond.lays "HouseFunctionsModel" "HouseFunctionsModel" "f" "I") ∈ al_M := List.mem_of_getElem? (i := 20) rfl
theorem wm_M_21 : (Jvm.Cond.laysFinal "HouseFunctionsModel" "HouseFunctionsModel" "parts" "[J") ∈ al_M := List.mem_of_getElem? (i := 21) rfl
theorem wm_M_22 : (Jvm.Cond.laysFinal "HouseFunctionsModel" "HouseFunctionsModel" "product" "[J") ∈ al_M := List.mem_of_getElem? (i := 22) rfl
theorem wm_M_23 : (Jvm.Cond.instanceMethod ({ cls := "HouseFunctionsModel", name := "thrown", desc := "()I" } : Jvm.MethodName)) ∈ al_M := List.mem_of_getElem? (i := 23) rfl
theorem wm_M_24 : (Jvm.Cond.selects "HouseFunctionsModel" ({ cls := "HouseFunctionsModel", name := "thrown", desc := "()I" } : Jvm.MethodName) ({ cls := "HouseFunctionsModel", name := "thrown", desc := "()I" } : Jvm.MethodName)) ∈ al_M := List.mem_of_getElem? (i := 24) rfl
theorem wm_M_25 : (Jvm.Cond.code ({ cls := "HouseFunctionsModel", name := "thrown", desc := "()I" } : Jvm.MethodName) prog_6_method_2_code (1 : Nat) (Option.some Jvm.ClassFile.FieldType.int)) ∈ al_M := List.mem_of_getElem? (i := 25) rfl
theorem wm_M_26 : (Jvm.Cond.instanceMethod ({ cls := "HouseFunctionsModel", name := "power", desc := "(I)J" } : Jvm.MethodName)) ∈ al_M := List.mem_of_getElem? (i := 26) rfl
theorem wm_M_27 : (Jvm.Cond.selects "HouseFunctionsModel" ({ cls := "HouseFunctionsModel", name := "power", desc := "(I)J" } : Jvm.MethodName) ({ cls := "HouseFunctionsModel", name := "power", desc := "(I)J" } : Jvm.MethodName)) ∈ al_M := List.mem_of_getElem? (i := 27) rfl
theorem wm_M_28 : (Jvm.Cond.code ({ cls := "HouseFunctionsModel", name := "power", desc := "(I)J" } : Jvm.MethodName) prog_6_method_23_code (5 : Nat) (Option.some Jvm.ClassFile.FieldType.long)) ∈ al_M := List.mem_of_getElem? (i := 28) rfl
theorem wm_M_29 : (Jvm.Cond.constant "HouseFunctionsModel" (100 : Nat) (-20000000 : Int32)) ∈ al_M := List.mem_of_getElem? (i := 29) rfl
theorem wm_M_30 : (Jvm.Cond.constant "HouseFunctionsModel" (101 : Nat) (20000000 : Int32)) ∈ al_M := List.mem_of_getElem? (i := 30) rfl
theorem wm_M_31 : (Jvm.Cond.constantLong "HouseFunctionsModel" (48 : Nat) (1000000000 : Int64)) ∈ al_M := List.mem_of_getElem? (i := 31) rfl
theorem wm_M_32 : (Jvm.Cond.constantLong "HouseFunctionsModel" (37 : Nat) (1000000 : Int64)) ∈ al_M := List.mem_of_getElem? (i := 32) rfl
theorem wm_M_33 : (Jvm.Cond.methodLink "HouseFunctionsModel" (77 : Nat) ({ cls := "HouseFunctionsModel", name := "ratio", desc := "(IJJ)V" } : Jvm.MethodName)) ∈ al_M := List.mem_of_getElem? (i := 33) rfl
theorem wm_M_34 : (Jvm.Cond.instanceMethod ({ cls := "HouseFunctionsModel", name := "ratio", desc := "(IJJ)V" } : Jvm.MethodName)) ∈ al_M := List.mem_of_getElem? (i := 34) rfl
theorem wm_M_35 : (Jvm.Cond.code ({ cls := "HouseFunctionsModel", name := "ratio", desc := "(IJJ)V" } : Jvm.MethodName) prog_6_method_11_code (6 : Nat) (Option.none : Option Jvm.ClassFile.FieldType)) ∈ al_M := List.mem_of_getElem? (i := 35) rfl
theorem wm_M_36 : (Jvm.Cond.methodLink "HouseFunctionsModel" (39 : Nat) ({ cls := "HouseFunctionsModel", name := "whole", desc := "(IJ)V" } : Jvm.MethodName)) ∈ al_M := List.mem_of_getElem? (i := 36) rfl
theorem wm_M_37 : (Jvm.Cond.instanceMethod ({ cls := "HouseFunctionsModel", name := "whole", desc := "(IJ)V" } : Jvm.MethodName)) ∈ al_M := List.mem_of_getElem? (i := 37) rfl
theorem wm_M_38 : (Jvm.Cond.code ({ cls := "HouseFunctionsModel", name := "whole", desc := "(IJ)V" } : Jvm.MethodName) prog_6_method_3_code (7 : Nat) (Option.none : Option Jvm.ClassFile.FieldType)) ∈ al_M := List.mem_of_getElem? (i := 38) rfl
theorem wm_M_39 : (Jvm.Cond.methodLink "HouseFunctionsModel" (43 : Nat) ({ cls := "HouseFunctionsModel", name := "by", desc := "(IJ)V" } : Jvm.MethodName)) ∈ al_M := List.mem_of_getElem? (i := 39) rfl
theorem wm_M_40 : (Jvm.Cond.instanceMethod ({ cls := "HouseFunctionsModel", name := "by", desc := "(IJ)V" } : Jvm.MethodName)) ∈ al_M := List.mem_of_getElem? (i := 40) rfl
theorem wm_M_41 : (Jvm.Cond.code ({ cls := "HouseFunctionsModel", name := "by", desc := "(IJ)V" } : Jvm.MethodName) prog_6_method_10_code (9 : Nat) (Option.none : Option Jvm.ClassFile.FieldType)) ∈ al_M := List.mem_of_getElem? (i := 41) rfl
theorem wm_M_42 : (Jvm.Cond.methodLink "HouseFunctionsModel" (102 : Nat) ({ cls := "HouseFunctionsModel", name := "powerOf", desc := "(Z)V" } : Jvm.MethodName)) ∈ al_M := List.mem_of_getElem? (i := 42) rfl
theorem wm_M_43 : (Jvm.Cond.instanceMethod ({ cls := "HouseFunctionsModel", name := "powerOf", desc := "(Z)V" } : Jvm.MethodName)) ∈ al_M := List.mem_of_getElem? (i := 43) rfl
theorem wm_M_44 : (Jvm.Cond.code ({ cls := "HouseFunctionsModel", name := "powerOf", desc := "(Z)V" } : Jvm.MethodName) prog_6_method_16_code (3 : Nat) (Option.none : Option Jvm.ClassFile.FieldType)) ∈ al_M := List.mem_of_getElem? (i := 44) rfl
theorem wm_M_45 : (Jvm.Cond.methodLink "HouseFunctionsModel" (57 : Nat) ({ cls := "HouseFunctionsModel", name := "copy", desc := "(II)V" } : Jvm.MethodName)) ∈ al_M := List.mem_of_getElem? (i := 45) rfl
theorem wm_M_46 : (Jvm.Cond.instanceMethod ({ cls := "HouseFunctionsModel", name := "copy", desc := "(II)V" } : Jvm.MethodName)) ∈ al_M := List.mem_of_getElem? (i := 46) rfl
theorem wm_M_47 : (Jvm.Cond.code ({ cls := "HouseFunctionsModel", name := "copy", desc := "(II)V" } : Jvm.MethodName) prog_6_method_4_code (4 : Nat) (Option.none : Option Jvm.ClassFile.FieldType)) ∈ al_M := List.mem_of_getElem? (i := 47) rfl
theorem wm_M_48 : (Jvm.Cond.constantLong "HouseFunctionsModel" (61 : Nat) (64 : Int64)) ∈ al_M := List.mem_of_getElem? (i := 48) rfl
theorem wm_M_49 : (Jvm.Cond.methodLink "HouseFunctionsModel" (63 : Nat) ({ cls := "HouseFunctionsModel", name := "isNothing", desc := "(I)Z" } : Jvm.MethodName)) ∈ al_M := List.mem_of_getElem? (i := 49) rfl
theorem wm_M_50 : (Jvm.Cond.instanceMethod ({ cls := "HouseFunctionsModel", name := "isNothing", desc := "(I)Z" } : Jvm.MethodName)) ∈ al_M := List.mem_of_getElem? (i := 50) rfl
theorem wm_M_51 : (Jvm.Cond.code ({ cls := "HouseFunctionsModel", name := "isNothing", desc := "(I)Z" } : Jvm.MethodName) prog_6_method_5_code (4 : Nat) (Option.some Jvm.ClassFile.FieldType.boolean)) ∈ al_M := List.mem_of_getElem? (i := 51) rfl
theorem wm_M_52 : (Jvm.Cond.methodLink "HouseFunctionsModel" (67 : Nat) ({ cls := "HouseFunctionsModel", name := "multiply", desc := "(III)V" } : Jvm.MethodName)) ∈ al_M := List.mem_of_getElem? (i := 52) rfl
theorem wm_M_53 : (Jvm.Cond.instanceMethod ({ cls := "HouseFunctionsModel", name := "multiply", desc := "(III)V" } : Jvm.MethodName)) ∈ al_M := List.mem_of_getElem? (i := 53) rfl
theorem wm_M_54 : (Jvm.Cond.code ({ cls := "HouseFunctionsModel", name := "multiply", desc := "(III)V" } : Jvm.MethodName) prog_6_method_12_code (9 : Nat) (Option.none : Option Jvm.ClassFile.FieldType)) ∈ al_M := List.mem_of_getElem? (i := 54) rfl
theorem wm_M_55 : (Jvm.Cond.methodLink "HouseFunctionsModel" (71 : Nat) ({ cls := "HouseFunctionsModel", name := "less", desc := "(II)V" } : Jvm.MethodName)) ∈ al_M := List.mem_of_getElem? (i := 55) rfl
theorem wm_M_56 : (Jvm.Cond.instanceMethod ({ cls := "HouseFunctionsModel", name := "less", desc := "(II)V" } : Jvm.MethodName)) ∈ al_M := List.mem_of_getElem? (i := 56) rfl
theorem wm_M_57 : (Jvm.Cond.code ({ cls := "HouseFunctionsModel", name := "less", desc := "(II)V" } : Jvm.MethodName) prog_6_method_7_code (8 : Nat) (Option.none : Option Jvm.ClassFile.FieldType)) ∈ al_M := List.mem_of_getElem? (i := 57) rfl
theorem wm_M_58 : (Jvm.Cond.methodLink "HouseFunctionsModel" (74 : Nat) ({ cls := "HouseFunctionsModel", name := "add", desc := "(II)V" } : Jvm.MethodName)) ∈ al_M := List.mem_of_getElem? (i := 58) rfl
theorem wm_M_59 : (Jvm.Cond.instanceMethod ({ cls := "HouseFunctionsModel", name := "add", desc := "(II)V" } : Jvm.MethodName)) ∈ al_M := List.mem_of_getElem? (i := 59) rfl
theorem wm_M_60 : (Jvm.Cond.code ({ cls := "HouseFunctionsModel", name := "add", desc := "(II)V" } : Jvm.MethodName) prog_6_method_6_code (8 : Nat) (Option.none : Option Jvm.ClassFile.FieldType)) ∈ al_M := List.mem_of_getElem? (i := 60) rfl
theorem wm_M_61 : (Jvm.Cond.methodLink "HouseFunctionsModel" (106 : Nat) ({ cls := "HouseFunctionsModel", name := "told", desc := "(IZ)J" } : Jvm.MethodName)) ∈ al_M := List.mem_of_getElem? (i := 61) rfl
theorem wm_M_62 : (Jvm.Cond.instanceMethod ({ cls := "HouseFunctionsModel", name := "told", desc := "(IZ)J" } : Jvm.MethodName)) ∈ al_M := List.mem_of_getElem? (i := 62) rfl
theorem wm_M_63 : (Jvm.Cond.code ({ cls := "HouseFunctionsModel", name := "told", desc := "(IZ)J" } : Jvm.MethodName) prog_6_method_15_code (3 : Nat) (Option.some Jvm.ClassFile.FieldType.long)) ∈ al_M := List.mem_of_getElem? (i := 63) rfl
theorem wm_M_64 : (Jvm.Cond.methodLink "HouseFunctionsModel" (50 : Nat) ({ cls := "HouseFunctionsModel", name := "times", desc := "(IJ)V" } : Jvm.MethodName)) ∈ al_M := List.mem_of_getElem? (i := 64) rfl
theorem wm_M_65 : (Jvm.Cond.instanceMethod ({ cls := "HouseFunctionsModel", name := "times", desc := "(IJ)V" } : Jvm.MethodName)) ∈ al_M := List.mem_of_getElem? (i := 65) rfl
theorem wm_M_66 : (Jvm.Cond.code ({ cls := "HouseFunctionsModel", name := "times", desc := "(IJ)V" } : Jvm.MethodName) prog_6_method_9_code (9 : Nat) (Option.none : Option Jvm.ClassFile.FieldType)) ∈ al_M := List.mem_of_getElem? (i := 66) rfl
theorem wm_M_67 : (Jvm.Cond.methodLink "HouseFunctionsModel" (53 : Nat) ({ cls := "HouseFunctionsModel", name := "before", desc := "(I)J" } : Jvm.MethodName)) ∈ al_M := List.mem_of_getElem? (i := 67) rfl
theorem wm_M_68 : (Jvm.Cond.instanceMethod ({ cls := "HouseFunctionsModel", name := "before", desc := "(I)J" } : Jvm.MethodName)) ∈ al_M := List.mem_of_getElem? (i := 68) rfl
theorem wm_M_69 : (Jvm.Cond.code ({ cls := "HouseFunctionsModel", name := "before", desc := "(I)J" } : Jvm.MethodName) prog_6_method_14_code (5 : Nat) (Option.some Jvm.ClassFile.FieldType.long)) ∈ al_M := List.mem_of_getElem? (i := 69) rfl
theorem wm_M_70 : (Jvm.Cond.methodLink "HouseFunctionsModel" (110 : Nat) ({ cls := "HouseFunctionsModel", name := "isOpen", desc := "(I)Z" } : Jvm.MethodName)) ∈ al_M := List.mem_of_getElem? (i := 70) rfl
theorem wm_M_71 : (Jvm.Cond.instanceMethod ({ cls := "HouseFunctionsModel", name := "isOpen", desc := "(I)Z" } : Jvm.MethodName)) ∈ al_M := List.mem_of_getElem? (i := 71) rfl
theorem wm_M_72 : (Jvm.Cond.code ({ cls := "HouseFunctionsModel", name := "isOpen", desc := "(I)Z" } : Jvm.MethodName) prog_6_method_13_code (5 : Nat) (Option.some Jvm.ClassFile.FieldType.boolean)) ∈ al_M := List.mem_of_getElem? (i := 72) rfl
theorem wm_M_73 : (Jvm.Cond.constantLong "HouseFunctionsModel" (46 : Nat) (999999 : Int64)) ∈ al_M := List.mem_of_getElem? (i := 73) rfl
theorem wm_M_74 : (Jvm.Cond.instanceMethod ({ cls := "HouseFunctionsModel", name := "logarithm", desc := "(J)J" } : Jvm.MethodName)) ∈ al_M := List.mem_of_getElem? (i := 74) rfl
theorem wm_M_75 : (Jvm.Cond.selects "HouseFunctionsModel" ({ cls := "HouseFunctionsModel", name := "logarithm", desc := "(J)J" } : Jvm.MethodName) ({ cls := "HouseFunctionsModel", name := "logarithm", desc := "(J)J" } : Jvm.MethodName)) ∈ al_M := List.mem_of_getElem? (i := 75) rfl
theorem wm_M_76 : (Jvm.Cond.code ({ cls := "HouseFunctionsModel", name := "logarithm", desc := "(J)J" } : Jvm.MethodName) prog_6_method_24_code (7 : Nat) (Option.some Jvm.ClassFile.FieldType.long)) ∈ al_M := List.mem_of_getElem? (i := 76) rfl
theorem wm_M_77 : (Jvm.Cond.constantLong "HouseFunctionsModel" (113 : Nat) (1000000000000 : Int64)) ∈ al_M := List.mem_of_getElem? (i := 77) rfl
theorem wm_M_78 : (Jvm.Cond.constantLong "HouseFunctionsModel" (115 : Nat) (-9223372036854775808 : Int64)) ∈ al_M := List.mem_of_getElem? (i := 78) rfl
theorem wm_M_79 : (Jvm.Cond.methodLink "HouseFunctionsModel" (117 : Nat) ({ cls := "HouseFunctionsModel", name := "logarithmOf", desc := "(J)V" } : Jvm.MethodName)) ∈ al_M := List.mem_of_getElem? (i := 79) rfl
theorem wm_M_80 : (Jvm.Cond.instanceMethod ({ cls := "HouseFunctionsModel", name := "logarithmOf", desc := "(J)V" } : Jvm.MethodName)) ∈ al_M := List.mem_of_getElem? (i := 80) rfl
theorem wm_M_81 : (Jvm.Cond.code ({ cls := "HouseFunctionsModel", name := "logarithmOf", desc := "(J)V" } : Jvm.MethodName) prog_6_method_18_code (6 : Nat) (Option.none : Option Jvm.ClassFile.FieldType)) ∈ al_M := List.mem_of_getElem? (i := 81) rfl
theorem wm_M_82 : (Jvm.Cond.constantLong "HouseFunctionsModel" (81 : Nat) (2 : Int64)) ∈ al_M := List.mem_of_getElem? (i := 82) rfl
theorem wm_M_83 : (Jvm.Cond.constantLong "HouseFunctionsModel" (83 : Nat) (3 : Int64)) ∈ al_M := List.mem_of_getElem? (i := 83) rfl
theorem wm_M_84 : (Jvm.Cond.methodLink "HouseFunctionsModel" (85 : Nat) ({ cls := "HouseFunctionsModel", name := "raised", desc := "(JJ)V" } : Jvm.MethodName)) ∈ al_M := List.mem_of_getElem? (i := 84) rfl
theorem wm_M_85 : (Jvm.Cond.instanceMethod ({ cls := "HouseFunctionsModel", name := "raised", desc := "(JJ)V" } : Jvm.MethodName)) ∈ al_M := List.mem_of_getElem? (i := 85) rfl
theorem wm_M_86 : (Jvm.Cond.code ({ cls := "HouseFunctionsModel", name := "raised", desc := "(JJ)V" } : Jvm.MethodName) prog_6_method_17_code (6 : Nat) (Option.none : Option Jvm.ClassFile.FieldType)) ∈ al_M := List.mem_of_getElem? (i := 86) rfl
theorem wm_M_87 : (Jvm.Cond.instanceMethod ({ cls := "HouseFunctionsModel", name := "sine", desc := "(I)J" } : Jvm.MethodName)) ∈ al_M := List.mem_of_getElem? (i := 87) rfl
theorem wm_M_88 : (Jvm.Cond.selects "HouseFunctionsModel" ({ cls := "HouseFunctionsModel", name := "sine", desc := "(I)J" } : Jvm.MethodName) ({ cls := "HouseFunctionsModel", name := "sine", desc := "(I)J" } : Jvm.MethodName)) ∈ al_M := List.mem_of_getElem? (i := 88) rfl
theorem wm_M_89 : (Jvm.Cond.code ({ cls := "HouseFunctionsModel", name := "sine", desc := "(I)J" } : Jvm.MethodName) prog_6_method_26_code (2 : Nat) (Option.some Jvm.ClassFile.FieldType.long)) ∈ al_M := List.mem_of_getElem? (i := 89) rfl
theorem wm_M_90 : (Jvm.Cond.methodLink "HouseFunctionsModel" (133 : Nat) ({ cls := "HouseFunctionsModel", name := "wave", desc := "(IZ)J" } : Jvm.MethodName)) ∈ al_M := List.mem_of_getElem? (i := 90) rfl
theorem wm_M_91 : (Jvm.Cond.instanceMethod ({ cls := "HouseFunctionsModel", name := "wave", desc := "(IZ)J" } : Jvm.MethodName)) ∈ al_M := List.mem_of_getElem? (i := 91) rfl
theorem wm_M_92 : (Jvm.Cond.code ({ cls := "HouseFunctionsModel", name := "wave", desc := "(IZ)J" } : Jvm.MethodName) prog_6_method_25_code (7 : Nat) (Option.some Jvm.ClassFile.FieldType.long)) ∈ al_M := List.mem_of_getElem? (i := 92) rfl
theorem wm_M_93 : (Jvm.Cond.constant "HouseFunctionsModel" (121 : Nat) (-100000000 : Int32)) ∈ al_M := List.mem_of_getElem? (i := 93) rfl
theorem wm_M_94 : (Jvm.Cond.constant "HouseFunctionsModel" (122 : Nat) (100000000 : Int32)) ∈ al_M := List.mem_of_getElem? (i := 94) rfl
theorem wm_M_95 : (Jvm.Cond.methodLink "HouseFunctionsModel" (123 : Nat) ({ cls := "HouseFunctionsModel", name := "half", desc := "()V" } : Jvm.MethodName)) ∈ al_M := List.mem_of_getElem? (i := 95) rfl
theorem wm_M_96 : (Jvm.Cond.instanceMethod ({ cls := "HouseFunctionsModel", name := "half", desc := "()V" } : Jvm.MethodName)) ∈ al_M := List.mem_of_getElem? (i := 96) rfl
theorem wm_M_97 : (Jvm.Cond.code ({ cls := "HouseFunctionsModel", name := "half", desc := "()V" } : Jvm.MethodName) prog_6_method_20_code (1 : Nat) (Option.none : Option Jvm.ClassFile.FieldType)) ∈ al_M := List.mem_of_getElem? (i := 97) rfl
theorem wm_M_98 : (Jvm.Cond.constantLong "HouseFunctionsModel" (89 : Nat) (5 : Int64)) ∈ al_M := List.mem_of_getElem? (i := 98) rfl
theorem wm_M_99 : (Jvm.Cond.constantLong "HouseFunctionsModel" (91 : Nat) (16 : Int64)) ∈ al_M := List.mem_of_getElem? (i := 99) rfl
theorem wm_M_100 : (Jvm.Cond.methodLink "HouseFunctionsModel" (93 : Nat) ({ cls := "HouseFunctionsModel", name := "angleOfOne", desc := "(IJJ)V" } : Jvm.MethodName)) ∈ al_M := List.mem_of_getElem? (i := 100) rfl
theorem wm_M_101 : (Jvm.Cond.instanceMethod ({ cls := "HouseFunctionsModel", name := "angleOfOne", desc := "(IJJ)V" } : Jvm.MethodName)) ∈ al_M := List.mem_of_getElem? (i := 101) rfl
theorem wm_M_102 : (Jvm.Cond.code ({ cls := "HouseFunctionsModel", name := "angleOfOne", desc := "(IJJ)V" } : Jvm.MethodName) prog_6_method_19_code (7 : Nat) (Option.none : Option Jvm.ClassFile.FieldType)) ∈ al_M := List.mem_of_getElem? (i := 102) rfl
theorem wm_M_103 : (Jvm.Cond.constantLong "HouseFunctionsModel" (96 : Nat) (239 : Int64)) ∈ al_M := List.mem_of_getElem? (i := 103) rfl
theorem wm_M_104 : (Jvm.Cond.constantLong "HouseFunctionsModel" (98 : Nat) (4 : Int64)) ∈ al_M := List.mem_of_getElem? (i := 104) rfl
theorem wm_M_105 : (Jvm.Cond.methodLink "HouseFunctionsModel" (126 : Nat) ({ cls := "HouseFunctionsModel", name := "against", desc := "(II)I" } : Jvm.MethodName)) ∈ al_M := List.mem_of_getElem? (i := 105) rfl
theorem wm_M_106 : (Jvm.Cond.instanceMethod ({ cls := "HouseFunctionsModel", name := "against", desc := "(II)I" } : Jvm.MethodName)) ∈ al_M := List.mem_of_getElem? (i := 106) rfl
theorem wm_M_107 : (Jvm.Cond.code ({ cls := "HouseFunctionsModel", name := "against", desc := "(II)I" } : Jvm.MethodName) prog_6_method_8_code (8 : Nat) (Option.some Jvm.ClassFile.FieldType.int)) ∈ al_M := List.mem_of_getElem? (i := 107) rfl
theorem wm_M_108 : (Jvm.Cond.methodLink "HouseFunctionsModel" (130 : Nat) ({ cls := "HouseFunctionsModel", name := "quarter", desc := "(Z)V" } : Jvm.MethodName)) ∈ al_M := List.mem_of_getElem? (i := 108) rfl
theorem wm_M_109 : (Jvm.Cond.instanceMethod ({ cls := "HouseFunctionsModel", name := "quarter", desc := "(Z)V" } : Jvm.MethodName)) ∈ al_M := List.mem_of_getElem? (i := 109) rfl
theorem wm_M_110 : (Jvm.Cond.code ({ cls := "HouseFunctionsModel", name := "quarter", desc := "(Z)V" } : Jvm.MethodName) prog_6_method_22_code (3 : Nat) (Option.none : Option Jvm.ClassFile.FieldType)) ∈ al_M := List.mem_of_getElem? (i := 110) rfl
theorem wm_M_111 : (Jvm.Cond.instanceMethod ({ cls := "HouseFunctionsModel", name := "cosine", desc := "(I)J" } : Jvm.MethodName)) ∈ al_M := List.mem_of_getElem? (i := 111) rfl
theorem wm_M_112 : (Jvm.Cond.selects "HouseFunctionsModel" ({ cls := "HouseFunctionsModel", name := "cosine", desc := "(I)J" } : Jvm.MethodName) ({ cls := "HouseFunctionsModel", name := "cosine", desc := "(I)J" } : Jvm.MethodName)) ∈ al_M := List.mem_of_getElem? (i := 112) rfl
theorem wm_M_113 : (Jvm.Cond.code ({ cls := "HouseFunctionsModel", name := "cosine", desc := "(I)J" } : Jvm.MethodName) prog_6_method_27_code (2 : Nat) (Option.some Jvm.ClassFile.FieldType.long)) ∈ al_M := List.mem_of_getElem? (i := 113) rfl
theorem wm_M_114 : (Jvm.Cond.instanceMethod ({ cls := "HouseFunctionsModel", name := "angle", desc := "(II)J" } : Jvm.MethodName)) ∈ al_M := List.mem_of_getElem? (i := 114) rfl
theorem wm_M_115 : (Jvm.Cond.selects "HouseFunctionsModel" ({ cls := "HouseFunctionsModel", name := "angle", desc := "(II)J" } : Jvm.MethodName) ({ cls := "HouseFunctionsModel", name := "angle", desc := "(II)J" } : Jvm.MethodName)) ∈ al_M := List.mem_of_getElem? (i := 115) rfl
theorem wm_M_116 : (Jvm.Cond.code ({ cls := "HouseFunctionsModel", name := "angle", desc := "(II)J" } : Jvm.MethodName) prog_6_method_28_code (10 : Nat) (Option.some Jvm.ClassFile.FieldType.long)) ∈ al_M := List.mem_of_getElem? (i := 116) rfl
theorem wm_M_117 : (Jvm.Cond.constant "HouseFunctionsModel" (136 : Nat) (-1000000 : Int32)) ∈ al_M := List.mem_of_getElem? (i := 117) rfl
theorem wm_M_118 : (Jvm.Cond.constant "HouseFunctionsModel" (137 : Nat) (1000000 : Int32)) ∈ al_M := List.mem_of_getElem? (i := 118) rfl
theorem wm_M_119 : (Jvm.Cond.methodLink "HouseFunctionsModel" (138 : Nat) ({ cls := "HouseFunctionsModel", name := "angleOf", desc := "(JJ)V" } : Jvm.MethodName)) ∈ al_M := List.mem_of_getElem? (i := 119) rfl
theorem wm_M_120 : (Jvm.Cond.instanceMethod ({ cls := "HouseFunctionsModel", name := "angleOf", desc := "(JJ)V" } : Jvm.MethodName)) ∈ al_M := List.mem_of_getElem? (i := 120) rfl
theorem wm_M_121 : (Jvm.Cond.code ({ cls := "HouseFunctionsModel", name := "angleOf", desc := "(JJ)V" } : Jvm.MethodName) prog_6_method_21_code (8 : Nat) (Option.none : Option Jvm.ClassFile.FieldType)) ∈ al_M := List.mem_of_getElem? (i := 121) rfl
theorem wm_M_122 : (Jvm.Cond.instanceMethod ({ cls := "HouseFunctionsModel", name := "root", desc := "(JI)J" } : Jvm.MethodName)) ∈ al_M := List.mem_of_getElem? (i := 122) rfl
theorem wm_M_123 : (Jvm.Cond.selects "HouseFunctionsModel" ({ cls := "HouseFunctionsModel", name := "root", desc := "(JI)J" } : Jvm.MethodName) ({ cls := "HouseFunctionsModel", name := "root", desc := "(JI)J" } : Jvm.MethodName)) ∈ al_M := List.mem_of_getElem? (i := 123) rfl
theorem wm_M_124 : (Jvm.Cond.code ({ cls := "HouseFunctionsModel", name := "root", desc := "(JI)J" } : Jvm.MethodName) prog_6_method_29_code (11 : Nat) (Option.some Jvm.ClassFile.FieldType.long)) ∈ al_M := List.mem_of_getElem? (i := 124) rfl
theorem wm_M_125 : (Jvm.Cond.constantLong "HouseFunctionsModel" (141 : Nat) (1000 : Int64)) ∈ al_M := List.mem_of_getElem? (i := 125) rfl
theorem wm_M_126 : (Jvm.Cond.constantLong "HouseFunctionsModel" (143 : Nat) (1000000000001 : Int64)) ∈ al_M := List.mem_of_getElem? (i := 126) rfl
theorem wm_M_127 : (Jvm.Cond.instanceMethod ({ cls := "HouseFunctionsModel", name := "damp", desc := "(II)J" } : Jvm.MethodName)) ∈ al_M := List.mem_of_getElem? (i := 127) rfl
theorem wm_M_128 : (Jvm.Cond.selects "HouseFunctionsModel" ({ cls := "HouseFunctionsModel", name := "damp", desc := "(II)J" } : Jvm.MethodName) ({ cls := "HouseFunctionsModel", name := "damp", desc := "(II)J" } : Jvm.MethodName)) ∈ al_M := List.mem_of_getElem? (i := 128) rfl
theorem wm_M_129 : (Jvm.Cond.code ({ cls := "HouseFunctionsModel", name := "damp", desc := "(II)J" } : Jvm.MethodName) prog_6_method_32_code (3 : Nat) (Option.some Jvm.ClassFile.FieldType.long)) ∈ al_M := List.mem_of_getElem? (i := 129) rfl
theorem wm_M_130 : (Jvm.Cond.methodLink "HouseFunctionsModel" (149 : Nat) ({ cls := "HouseFunctionsModel", name := "isWarmth", desc := "(I)Z" } : Jvm.MethodName)) ∈ al_M := List.mem_of_getElem? (i := 130) rfl
theorem wm_M_131 : (Jvm.Cond.static ({ cls := "HouseFunctionsModel", name := "isWarmth", desc := "(I)Z" } : Jvm.MethodName)) ∈ al_M := List.mem_of_getElem? (i := 131) rfl
theorem wm_M_132 : (Jvm.Cond.code ({ cls := "HouseFunctionsModel", name := "isWarmth", desc := "(I)Z" } : Jvm.MethodName) prog_6_method_31_code (1 : Nat) (Option.some Jvm.ClassFile.FieldType.boolean)) ∈ al_M := List.mem_of_getElem? (i := 132) rfl
theorem wm_M_133 : (Jvm.Cond.methodLink "HouseFunctionsModel" (152 : Nat) ({ cls := "HouseFunctionsModel", name := "pressure", desc := "(II)J" } : Jvm.MethodName)) ∈ al_M := List.mem_of_getElem? (i := 133) rfl
theorem wm_M_134 : (Jvm.Cond.instanceMethod ({ cls := "HouseFunctionsModel", name := "pressure", desc := "(II)J" } : Jvm.MethodName)) ∈ al_M := List.mem_of_getElem? (i := 134) rfl
theorem wm_M_135 : (Jvm.Cond.code ({ cls := "HouseFunctionsModel", name := "pressure", desc := "(II)J" } : Jvm.MethodName) prog_6_method_30_code (6 : Nat) (Option.some Jvm.ClassFile.FieldType.long)) ∈ al_M := List.mem_of_getElem? (i := 135) rfl
theorem wm_M_136 : (Jvm.Cond.constantLong "HouseFunctionsModel" (145 : Nat) (61094 : Int64)) ∈ al_M := List.mem_of_getElem? (i := 136) rfl
theorem wm_M_137 : (Jvm.Cond.constantLong "HouseFunctionsModel" (147 : Nat) (17625 : Int64)) ∈ al_M := List.mem_of_getElem? (i := 137) rfl
theorem wm_M_138 : (Jvm.Cond.instanceMethod ({ cls := "HouseFunctionsModel", name := "dew", desc := "(I)J" } : Jvm.MethodName)) ∈ al_M := List.mem_of_getElem? (i := 138) rfl
theorem wm_M_139 : (Jvm.Cond.selects "HouseFunctionsModel" ({ cls := "HouseFunctionsModel", name := "dew", desc := "(I)J" } : Jvm.MethodName) ({ cls := "HouseFunctionsModel", name := "dew", desc := "(I)J" } : Jvm.MethodName)) ∈ al_M := List.mem_of_getElem? (i := 139) rfl
theorem wm_M_140 : (Jvm.Cond.code ({ cls := "HouseFunctionsModel", name := "dew", desc := "(I)J" } : Jvm.MethodName) prog_6_method_33_code (5 : Nat) (Option.some Jvm.ClassFile.FieldType.long)) ∈ al_M := List.mem_of_getElem? (i := 140) rfl
theorem wm_M_141 : (Jvm.Cond.constant "HouseFunctionsModel" (156 : Nat) (1000000000 : Int32)) ∈ al_M := List.mem_of_getElem? (i := 141) rfl
theorem wm_M_142 : (Jvm.Cond.instanceMethod ({ cls := "HouseFunctionsModel", name := "table", desc := "()I" } : Jvm.MethodName)) ∈ al_M := List.mem_of_getElem? (i := 142) rfl
theorem wm_M_143 : (Jvm.Cond.selects "HouseFunctionsModel" ({ cls := "HouseFunctionsModel", name := "table", desc := "()I" } : Jvm.MethodName) ({ cls := "HouseFunctionsModel", name := "table", desc := "()I" } : Jvm.MethodName)) ∈ al_M := List.mem_of_getElem? (i := 143) rfl
theorem wm_M_144 : (Jvm.Cond.code ({ cls := "HouseFunctionsModel", name := "table", desc := "()I" } : Jvm.MethodName) prog_6_method_34_code (1 : Nat) (Option.some Jvm.ClassFile.FieldType.int)) ∈ al_M := List.mem_of_getElem? (i := 144) rfl
theorem wm_M_145 : (Jvm.Cond.instanceMethod ({ cls := "HouseFunctionsModel", name := "row", desc := "(III)I" } : Jvm.MethodName)) ∈ al_M := List.mem_of_getElem? (i := 145) rfl
theorem wm_M_146 : (Jvm.Cond.selects "HouseFunctionsModel" ({ cls := "HouseFunctionsModel", name := "row", desc := "(III)I" } : Jvm.MethodName) ({ cls := "HouseFunctionsModel", name := "row", desc := "(III)I" } : Jvm.MethodName)) ∈ al_M := List.mem_of_getElem? (i := 146) rfl
theorem wm_M_147 : (Jvm.Cond.code ({ cls := "HouseFunctionsModel", name := "row", desc := "(III)I" } : Jvm.MethodName) prog_6_method_37_code (5 : Nat) (Option.some Jvm.ClassFile.FieldType.int)) ∈ al_M := List.mem_of_getElem? (i := 147) rfl
theorem wm_M_148 : (Jvm.Cond.methodLink "HouseFunctionsModel" (161 : Nat) ({ cls := "HouseFunctionsModel", name := "isTable", desc := "(I)Z" } : Jvm.MethodName)) ∈ al_M := List.mem_of_getElem? (i := 148) rfl
theorem wm_M_149 : (Jvm.Cond.instanceMethod ({ cls := "HouseFunctionsModel", name := "isTable", desc := "(I)Z" } : Jvm.MethodName)) ∈ al_M := List.mem_of_getElem? (i := 149) rfl
theorem wm_M_150 : (Jvm.Cond.code ({ cls := "HouseFunctionsModel", name := "isTable", desc := "(I)Z" } : Jvm.MethodName) prog_6_method_36_code (2 : Nat) (Option.some Jvm.ClassFile.FieldType.boolean)) ∈ al_M := List.mem_of_getElem? (i := 150) rfl
theorem wm_M_151 : (Jvm.Cond.methodLink "HouseFunctionsModel" (164 : Nat) ({ cls := "HouseFunctionsModel", name := "isNumber", desc := "(I)Z" } : Jvm.MethodName)) ∈ al_M := List.mem_of_getElem? (i := 151) rfl
theorem wm_M_152 : (Jvm.Cond.static ({ cls := "HouseFunctionsModel", name := "isNumber", desc := "(I)Z" } : Jvm.MethodName)) ∈ al_M := List.mem_of_getElem? (i := 152) rfl
theorem wm_M_153 : (Jvm.Cond.code ({ cls := "HouseFunctionsModel", name := "isNumber", desc := "(I)Z" } : Jvm.MethodName) prog_6_method_35_code (1 : Nat) (Option.some Jvm.ClassFile.FieldType.boolean)) ∈ al_M := List.mem_of_getElem? (i := 153) rfl
theorem wm_M_154 : (Jvm.Cond.constant "HouseFunctionsModel" (160 : Nat) (-1000000000 : Int32)) ∈ al_M := List.mem_of_getElem? (i := 154) rfl
theorem wm_M_155 : (Jvm.Cond.instanceMethod ({ cls := "HouseFunctionsModel", name := "at", desc := "(II)J" } : Jvm.MethodName)) ∈ al_M := List.mem_of_getElem? (i := 155) rfl
theorem wm_M_156 : (Jvm.Cond.selects "HouseFunctionsModel" ({ cls := "HouseFunctionsModel", name := "at", desc := "(II)J" } : Jvm.MethodName) ({ cls := "HouseFunctionsModel", name := "at", desc := "(II)J" } : Jvm.MethodName)) ∈ al_M := List.mem_of_getElem? (i := 156) rfl
theorem wm_M_157 : (Jvm.Cond.code ({ cls := "HouseFunctionsModel", name := "at", desc := "(II)J" } : Jvm.MethodName) prog_6_method_40_code (3 : Nat) (Option.some Jvm.ClassFile.FieldType.long)) ∈ al_M := List.mem_of_getElem? (i := 157) rfl
theorem wm_M_158 : (Jvm.Cond.methodLink "HouseFunctionsModel" (171 : Nat) ({ cls := "HouseFunctionsModel", name := "valueAt", desc := "(II)J" } : Jvm.MethodName)) ∈ al_M := List.mem_of_getElem? (i := 158) rfl
theorem wm_M_159 : (Jvm.Cond.instanceMethod ({ cls := "HouseFunctionsModel", name := "valueAt", desc := "(II)J" } : Jvm.MethodName)) ∈ al_M := List.mem_of_getElem? (i := 159) rfl
theorem wm_M_160 : (Jvm.Cond.code ({ cls := "HouseFunctionsModel", name := "valueAt", desc := "(II)J" } : Jvm.MethodName) prog_6_method_39_code (10 : Nat) (Option.some Jvm.ClassFile.FieldType.long)) ∈ al_M := List.mem_of_getElem? (i := 160) rfl
theorem wm_M_161 : (Jvm.Cond.methodLink "HouseFunctionsModel" (167 : Nat) ({ cls := "HouseFunctionsModel", name := "down", desc := "(JJ)J" } : Jvm.MethodName)) ∈ al_M := List.mem_of_getElem? (i := 161) rfl
theorem wm_M_162 : (Jvm.Cond.static ({ cls := "HouseFunctionsModel", name := "down", desc := "(JJ)J" } : Jvm.MethodName)) ∈ al_M := List.mem_of_getElem? (i := 162) rfl
theorem wm_M_163 : (Jvm.Cond.code ({ cls := "HouseFunctionsModel", name := "down", desc := "(JJ)J" } : Jvm.MethodName) prog_6_method_38_code (6 : Nat) (Option.some Jvm.ClassFile.FieldType.long)) ∈ al_M := List.mem_of_getElem? (i := 163) rfl
theorem wm_M_164 : (Jvm.Cond.instanceMethod ({ cls := "HouseFunctionsModel", name := "join", desc := "(III)J" } : Jvm.MethodName)) ∈ al_M := List.mem_of_getElem? (i := 164) rfl
theorem wm_M_165 : (Jvm.Cond.selects "HouseFunctionsModel" ({ cls := "HouseFunctionsModel", name := "join", desc := "(III)J" } : Jvm.MethodName) ({ cls := "HouseFunctionsModel", name := "join", desc := "(III)J" } : Jvm.MethodName)) ∈ al_M := List.mem_of_getElem? (i := 165) rfl
theorem wm_M_166 : (Jvm.Cond.code ({ cls := "HouseFunctionsModel", name := "join", desc := "(III)J" } : Jvm.MethodName) prog_6_method_41_code (8 : Nat) (Option.some Jvm.ClassFile.FieldType.long)) ∈ al_M := List.mem_of_getElem? (i := 166) rfl
theorem wm_M_167 : (Jvm.Cond.instanceMethod ({ cls := "HouseFunctionsModel", name := "drawn", desc := "(JI)I" } : Jvm.MethodName)) ∈ al_M := List.mem_of_getElem? (i := 167) rfl
theorem wm_M_168 : (Jvm.Cond.selects "HouseFunctionsModel" ({ cls := "HouseFunctionsModel", name := "drawn", desc := "(JI)I" } : Jvm.MethodName) ({ cls := "HouseFunctionsModel", name := "drawn", desc := "(JI)I" } : Jvm.MethodName)) ∈ al_M := List.mem_of_getElem? (i := 168) rfl
theorem wm_M_169 : (Jvm.Cond.code ({ cls := "HouseFunctionsModel", name := "drawn", desc := "(JI)I" } : Jvm.MethodName) prog_6_method_42_code (6 : Nat) (Option.some Jvm.ClassFile.FieldType.int)) ∈ al_M := List.mem_of_getElem? (i := 169) rfl
theorem wm_M_170 : (Jvm.Cond.constantLong "HouseFunctionsModel" (174 : Nat) (-7046029254386353131 : Int64)) ∈ al_M := List.mem_of_getElem? (i := 170) rfl
theorem wm_M_171 : (Jvm.Cond.constantLong "HouseFunctionsModel" (176 : Nat) (-3335678366873096957 : Int64)) ∈ al_M := List.mem_of_getElem? (i := 171) rfl
theorem wm_M_172 : (Jvm.Cond.constantLong "HouseFunctionsModel" (178 : Nat) (-4658895280553007687 : Int64)) ∈ al_M := List.mem_of_getElem? (i := 172) rfl
theorem wm_M_173 : (Jvm.Cond.constantLong "HouseFunctionsModel" (180 : Nat) (-7723592293110705685 : Int64)) ∈ al_M := List.mem_of_getElem? (i := 173) rfl
theorem wm_M_174 : (Jvm.Cond.selects "HouseFunctionsModel" ({ cls := "HouseFunctionsModel", name := "ratio", desc := "(IJJ)V" } : Jvm.MethodName) ({ cls := "HouseFunctionsModel", name := "ratio", desc := "(IJJ)V" } : Jvm.MethodName)) ∈ al_M := List.mem_of_getElem? (i := 174) rfl
theorem wm_M_175 : (Jvm.Cond.selects "HouseFunctionsModel" ({ cls := "HouseFunctionsModel", name := "whole", desc := "(IJ)V" } : Jvm.MethodName) ({ cls := "HouseFunctionsModel", name := "whole", desc := "(IJ)V" } : Jvm.MethodName)) ∈ al_M := List.mem_of_getElem? (i := 175) rfl
theorem wm_M_176 : (Jvm.Cond.selects "HouseFunctionsModel" ({ cls := "HouseFunctionsModel", name := "by", desc := "(IJ)V" } : Jvm.MethodName) ({ cls := "HouseFunctionsModel", name := "by", desc := "(IJ)V" } : Jvm.MethodName)) ∈ al_M := List.mem_of_getElem? (i := 176) rfl
theorem wm_M_177 : (Jvm.Cond.selects "HouseFunctionsModel" ({ cls := "HouseFunctionsModel", name := "powerOf", desc := "(Z)V" } : Jvm.MethodName) ({ cls := "HouseFunctionsModel", name := "powerOf", desc := "(Z)V" } : Jvm.MethodName)) ∈ al_M := List.mem_of_getElem? (i := 177) rfl
theorem wm_M_178 : (Jvm.Cond.selects "HouseFunctionsModel" ({ cls := "HouseFunctionsModel", name := "copy", desc := "(II)V" } : Jvm.MethodName) ({ cls := "HouseFunctionsModel", name := "copy", desc := "(II)V" } : Jvm.MethodName)) ∈ al_M := List.mem_of_getElem? (i := 178) rfl
theorem wm_M_179 : (Jvm.Cond.selects "HouseFunctionsModel" ({ cls := "HouseFunctionsModel", name := "isNothing", desc := "(I)Z" } : Jvm.MethodName) ({ cls := "HouseFunctionsModel", name := "isNothing", desc := "(I)Z" } : Jvm.MethodName)) ∈ al_M := List.mem_of_getElem? (i := 179) rfl
theorem wm_M_180 : (Jvm.Cond.selects "HouseFunctionsModel" ({ cls := "HouseFunctionsModel", name := "multiply", desc := "(III)V" } : Jvm.MethodName) ({ cls := "HouseFunctionsModel", name := "multiply", desc := "(III)V" } : Jvm.MethodName)) ∈ al_M := List.mem_of_getElem? (i := 180) rfl
theorem wm_M_181 : (Jvm.Cond.selects "HouseFunctionsModel" ({ cls := "HouseFunctionsModel", name := "less", desc := "(II)V" } : Jvm.MethodName) ({ cls := "HouseFunctionsModel", name := "less", desc := "(II)V" } : Jvm.MethodName)) ∈ al_M := List.mem_of_getElem? (i := 181) rfl
theorem wm_M_182 : (Jvm.Cond.selects "HouseFunctionsModel" ({ cls := "HouseFunctionsModel", name := "add", desc := "(II)V" } : Jvm.MethodName) ({ cls := "HouseFunctionsModel", name := "add", desc := "(II)V" } : Jvm.MethodName)) ∈ al_M := List.mem_of_getElem? (i := 182) rfl
theorem wm_M_183 : (Jvm.Cond.selects "HouseFunctionsModel" ({ cls := "HouseFunctionsModel", name := "told", desc := "(IZ)J" } : Jvm.MethodName) ({ cls := "HouseFunctionsModel", name := "told", desc := "(IZ)J" } : Jvm.MethodName)) ∈ al_M := List.mem_of_getElem? (i := 183) rfl
theorem wm_M_184 : (Jvm.Cond.selects "HouseFunctionsModel" ({ cls := "HouseFunctionsModel", name := "times", desc := "(IJ)V" } : Jvm.MethodName) ({ cls := "HouseFunctionsModel", name := "times", desc := "(IJ)V" } : Jvm.MethodName)) ∈ al_M := List.mem_of_getElem? (i := 184) rfl
theorem wm_M_185 : (Jvm.Cond.selects "HouseFunctionsModel" ({ cls := "HouseFunctionsModel", name := "before", desc := "(I)J" } : Jvm.MethodName) ({ cls := "HouseFunctionsModel", name := "before", desc := "(I)J" } : Jvm.MethodName)) ∈ al_M := List.mem_of_getElem? (i := 185) rfl
theorem wm_M_186 : (Jvm.Cond.selects "HouseFunctionsModel" ({ cls := "HouseFunctionsModel", name := "isOpen", desc := "(I)Z" } : Jvm.MethodName) ({ cls := "HouseFunctionsModel", name := "isOpen", desc := "(I)Z" } : Jvm.MethodName)) ∈ al_M := List.mem_of_getElem? (i := 186) rfl
theorem wm_M_187 : (Jvm.Cond.selects "HouseFunctionsModel" ({ cls := "HouseFunctionsModel", name := "logarithmOf", desc := "(J)V" } : Jvm.MethodName) ({ cls := "HouseFunctionsModel", name := "logarithmOf", desc := "(J)V" } : Jvm.MethodName)) ∈ al_M := List.mem_of_getElem? (i := 187) rfl
theorem wm_M_188 : (Jvm.Cond.selects "HouseFunctionsModel" ({ cls := "HouseFunctionsModel", name := "raised", desc := "(JJ)V" } : Jvm.MethodName) ({ cls := "HouseFunctionsModel", name := "raised", desc := "(JJ)V" } : Jvm.MethodName)) ∈ al_M := List.mem_of_getElem? (i := 188) rfl
theorem wm_M_189 : (Jvm.Cond.selects "HouseFunctionsModel" ({ cls := "HouseFunctionsModel", name := "wave", desc := "(IZ)J" } : Jvm.MethodName) ({ cls := "HouseFunctionsModel", name := "wave", desc := "(IZ)J" } : Jvm.MethodName)) ∈ al_M := List.mem_of_getElem? (i := 189) rfl
theorem wm_M_190 : (Jvm.Cond.selects "HouseFunctionsModel" ({ cls := "HouseFunctionsModel", name := "half", desc := "()V" } : Jvm.MethodName) ({ cls := "HouseFunctionsModel", name := "half", desc := "()V" } : Jvm.MethodName)) ∈ al_M := List.mem_of_getElem? (i := 190) rfl
theorem wm_M_191 : (Jvm.Cond.selects "HouseFunctionsModel" ({ cls := "HouseFunctionsModel", name := "angleOfOne", desc := "(IJJ)V" } : Jvm.MethodName) ({ cls := "HouseFunctionsModel", name := "angleOfOne", desc := "(IJJ)V" } : Jvm.MethodName)) ∈ al_M := List.mem_of_getElem? (i := 191) rfl
theorem wm_M_192 : (Jvm.Cond.selects "HouseFunctionsModel" ({ cls := "HouseFunctionsModel", name := "against", desc := "(II)I" } : Jvm.MethodName) ({ cls := "HouseFunctionsModel", name := "against", desc := "(II)I" } : Jvm.MethodName)) ∈ al_M := List.mem_of_getElem? (i := 192) rfl
theorem wm_M_193 : (Jvm.Cond.selects "HouseFunctionsModel" ({ cls := "HouseFunctionsModel", name := "quarter", desc := "(Z)V" } : Jvm.MethodName) ({ cls := "HouseFunctionsModel", name := "quarter", desc := "(Z)V" } : Jvm.MethodName)) ∈ al_M := List.mem_of_getElem? (i := 193) rfl
theorem wm_M_194 : (Jvm.Cond.selects "HouseFunctionsModel" ({ cls := "HouseFunctionsModel", name := "angleOf", desc := "(JJ)V" } : Jvm.MethodName) ({ cls := "HouseFunctionsModel", name := "angleOf", desc := "(JJ)V" } : Jvm.MethodName)) ∈ al_M := List.mem_of_getElem? (i := 194) rfl
theorem wm_M_195 : (Jvm.Cond.selects "HouseFunctionsModel" ({ cls := "HouseFunctionsModel", name := "pressure", desc := "(II)J" } : Jvm.MethodName) ({ cls := "HouseFunctionsModel", name := "pressure", desc := "(II)J" } : Jvm.MethodName)) ∈ al_M := List.mem_of_getElem? (i := 195) rfl
theorem wm_M_196 : (Jvm.Cond.selects "HouseFunctionsModel" ({ cls := "HouseFunctionsModel", name := "isTable", desc := "(I)Z" } : Jvm.MethodName) ({ cls := "HouseFunctionsModel", name := "isTable", desc := "(I)Z" } : Jvm.MethodName)) ∈ al_M := List.mem_of_getElem? (i := 196) rfl
theorem wm_M_197 : (Jvm.Cond.selects "HouseFunctionsModel" ({ cls := "HouseFunctionsModel", name := "valueAt", desc := "(II)J" } : Jvm.MethodName) ({ cls := "HouseFunctionsModel", name := "valueAt", desc := "(II)J" } : Jvm.MethodName)) ∈ al_M := List.mem_of_getElem? (i := 197) rfl
theorem wm_M_198 : (Jvm.Cond.instanceMethod ({ cls := "java/lang/Object", name := "<init>", desc := "()V" } : Jvm.MethodName)) ∈ al_M := List.mem_of_getElem? (i := 198) rfl
theorem wm_M_199 : (Jvm.Cond.code ({ cls := "java/lang/Object", name := "<init>", desc := "()V" } : Jvm.MethodName) object_method_1_code (1 : Nat) (Option.none : Option Jvm.ClassFile.FieldType)) ∈ al_M := List.mem_of_getElem? (i := 199) rfl
theorem wm_M_200 : (Jvm.Cond.arrayClass Jvm.ClassFile.FieldType.int) ∈ al_M := List.mem_of_getElem? (i := 200) rfl
theorem wm_M_201 : (Jvm.Cond.arrayClass Jvm.ClassFile.FieldType.long) ∈ al_M := List.mem_of_getElem? (i := 201) rfl
abbrev b_W_init : ByteArray := prog_4_method_1_code
def y_W_init : MethodName := ⟨R_W, "<init>", "()V"⟩
def w_W_init : List Cond := .code y_W_init b_W_init 1 ((Option.none : Option FieldType)) :: al_W
abbrev b_W_load : ByteArray := prog_4_method_2_code
def y_W_load : MethodName := ⟨R_W, "load", "(J)V"⟩
def w_W_load : List Cond := .code y_W_load b_W_load 3 ((Option.none : Option FieldType)) :: al_W
abbrev b_W_loadInteger : ByteArray := prog_4_method_3_code
def y_W_loadInteger : MethodName := ⟨R_W, "loadInteger", "(J)V"⟩
def w_W_loadInteger : List Cond := .code y_W_loadInteger b_W_loadInteger 3 ((Option.none : Option FieldType)) :: al_W
abbrev b_W_loadRatio : ByteArray := prog_4_method_4_code
def y_W_loadRatio : MethodName := ⟨R_W, "loadRatio", "(JJ)V"⟩
def w_W_loadRatio : List Cond := .code y_W_loadRatio b_W_loadRatio 5 ((Option.none : Option FieldType)) :: al_W
abbrev b_W_loadWide : ByteArray := prog_4_method_5_code
def y_W_loadWide : MethodName := ⟨R_W, "loadWide", "(LHouseFunctions$Wide;)V"⟩
def w_W_loadWide : List Cond := .code y_W_loadWide b_W_loadWide 3 ((Option.none : Option FieldType)) :: al_W
abbrev b_W_loadLimbs : ByteArray := prog_4_method_6_code
def y_W_loadLimbs : MethodName := ⟨R_W, "loadLimbs", "([JI)V"⟩
def w_W_loadLimbs : List Cond := .code y_W_loadLimbs b_W_loadLimbs 5 ((Option.none : Option FieldType)) :: al_W
abbrev b_W_add : ByteArray := prog_4_method_7_code
def y_W_add : MethodName := ⟨R_W, "add", "(LHouseFunctions$Wide;)V"⟩
def w_W_add : List Cond := .code y_W_add b_W_add 7 ((Option.none : Option FieldType)) :: al_W
abbrev b_W_subtract : ByteArray := prog_4_method_8_code
def y_W_subtract : MethodName := ⟨R_W, "subtract", "(LHouseFunctions$Wide;)V"⟩
def w_W_subtract : List Cond := .code y_W_subtract b_W_subtract 7 ((Option.none : Option FieldType)) :: al_W
abbrev b_W_addOrSubtract : ByteArray := prog_4_method_9_code
def y_W_addOrSubtract : MethodName := ⟨R_W, "addOrSubtract", "(LHouseFunctions$Wide;Z)V"⟩
def w_W_addOrSubtract : List Cond := .code y_W_addOrSubtract b_W_addOrSubtract 3 ((Option.none : Option FieldType)) :: al_W
abbrev b_W_negate : ByteArray := prog_4_method_10_code
def y_W_negate : MethodName := ⟨R_W, "negate", "()V"⟩
def w_W_negate : List Cond := .code y_W_negate b_W_negate 6 ((Option.none : Option FieldType)) :: al_W
abbrev b_W_scale : ByteArray := prog_4_method_11_code
def y_W_scale : MethodName := ⟨R_W, "scale", "(J)V"⟩
def w_W_scale : List Cond := .code y_W_scale b_W_scale 8 ((Option.none : Option FieldType)) :: al_W
abbrev b_W_divide : ByteArray := prog_4_method_12_code
def y_W_divide : MethodName := ⟨R_W, "divide", "(J)V"⟩
def w_W_divide : List Cond := .code y_W_divide b_W_divide 14 ((Option.none : Option FieldType)) :: al_W
abbrev b_W_multiply : ByteArray := prog_4_method_13_code
def y_W_multiply : MethodName := ⟨R_W, "multiply", "(LHouseFunctions$Wide;)V"⟩
def w_W_multiply : List Cond := .code y_W_multiply b_W_multiply 2 ((Option.none : Option FieldType)) :: al_W
abbrev b_W_multiplyInteger : ByteArray := prog_4_method_14_code
def y_W_multiplyInteger : MethodName := ⟨R_W, "multiplyInteger", "(LHouseFunctions$Wide;)V"⟩
def w_W_multiplyInteger : List Cond := .code y_W_multiplyInteger b_W_multiplyInteger 2 ((Option.none : Option FieldType)) :: al_W
abbrev b_W_multiplyAndDrop : ByteArray := prog_4_method_15_code
def y_W_multiplyAndDrop : MethodName := ⟨R_W, "multiplyAndDrop", "(LHouseFunctions$Wide;I)V"⟩
def w_W_multiplyAndDrop : List Cond := .code y_W_multiplyAndDrop b_W_multiplyAndDrop 11 ((Option.none : Option FieldType)) :: al_W
abbrev b_W_isZero : ByteArray := prog_4_method_16_code
def y_W_isZero : MethodName := ⟨R_W, "isZero", "()Z"⟩
def w_W_isZero : List Cond := .code y_W_isZero b_W_isZero 2 ((Option.some FieldType.boolean)) :: al_W
abbrev b_W_isNegative : ByteArray := prog_4_method_17_code
def y_W_isNegative : MethodName := ⟨R_W, "isNegative", "()Z"⟩
def w_W_isNegative : List Cond := .code y_W_isNegative b_W_isNegative 1 ((Option.some FieldType.boolean)) :: al_W
abbrev b_W_isAbove : ByteArray := prog_4_method_18_code
def y_W_isAbove : MethodName := ⟨R_W, "isAbove", "(LHouseFunctions$Wide;)Z"⟩
def w_W_isAbove : List Cond := .code y_W_isAbove b_W_isAbove 3 ((Option.some FieldType.boolean)) :: al_W
abbrev b_W_whole : ByteArray := prog_4_method_19_code
def y_W_whole : MethodName := ⟨R_W, "whole", "()J"⟩
def w_W_whole : List Cond := .code y_W_whole b_W_whole 1 ((Option.some FieldType.long)) :: al_W
abbrev b_fill : ByteArray := prog_14_method_101_code
def y_fill : MethodName := ⟨"java/util/Arrays", "fill", "([JJ)V"⟩
def w_fill : List Cond := [.code y_fill b_fill 5 ((Option.none : Option FieldType))]
abbrev b_Math_max_III : ByteArray := prog_10_method_65_code
def y_Math_max_III : MethodName := ⟨"java/lang/Math", "max", "(II)I"⟩
def w_Math_max_III : List Cond := [.code y_Math_max_III b_Math_max_III 2 ((Option.some FieldType.int))]
abbrev b_K_init : ByteArray := prog_2_method_1_code
def y_K_init : MethodName := ⟨R_K, "<init>", "()V"⟩
def w_K_init : List Cond := .code y_K_init b_K_init 1 ((Option.none : Option FieldType)) :: al_K
abbrev b_K_floorTimes : ByteArray := prog_2_method_2_code
def y_K_floorTimes : MethodName := ⟨R_K, "floorTimes", "(J)J"⟩
def w_K_floorTimes : List Cond := .code y_K_floorTimes b_K_floorTimes 3 ((Option.some FieldType.long)) :: al_K
abbrev b_K_raiseE : ByteArray := prog_2_method_3_code
def y_K_raiseE : MethodName := ⟨R_K, "raiseE", "(JJ)V"⟩
def w_K_raiseE : List Cond := .code y_K_raiseE b_K_raiseE 10 ((Option.none : Option FieldType)) :: al_K
abbrev b_K_takeLog : ByteArray := prog_2_method_4_code
def y_K_takeLog : MethodName := ⟨R_K, "takeLog", "(JJ)V"⟩
def w_K_takeLog : List Cond := .code y_K_takeLog b_K_takeLog 11 ((Option.none : Option FieldType)) :: al_K
abbrev b_K_swing : ByteArray := prog_2_method_5_code
def y_K_swing : MethodName := ⟨R_K, "swing", "(JI)V"⟩
def w_K_swing : List Cond := .code y_K_swing b_K_swing 8 ((Option.none : Option FieldType)) :: al_K
abbrev b_K_pointTo : ByteArray := prog_2_method_6_code
def y_K_pointTo : MethodName := ⟨R_K, "pointTo", "(II)V"⟩
def w_K_pointTo : List Cond := .code y_K_pointTo b_K_pointTo 7 ((Option.none : Option FieldType)) :: al_K
abbrev b_K_floorOfRoot : ByteArray := prog_2_method_7_code
def y_K_floorOfRoot : MethodName := ⟨R_K, "floorOfRoot", "(JI)J"⟩
def w_K_floorOfRoot : List Cond := .code y_K_floorOfRoot b_K_floorOfRoot 9 ((Option.some FieldType.long)) :: al_K
abbrev b_K_keepLog : ByteArray := prog_2_method_8_code
def y_K_keepLog : MethodName := ⟨R_K, "keepLog", "()V"⟩
def w_K_keepLog : List Cond := .code y_K_keepLog b_K_keepLog 1 ((Option.none : Option FieldType)) :: al_K
abbrev b_K_isRatioBelowKept : ByteArray := prog_2_method_9_code
def y_K_isRatioBelowKept : MethodName := ⟨R_K, "isRatioBelowKept", "(JJ)Z"⟩
def w_K_isRatioBelowKept : List Cond := .code y_K_isRatioBelowKept b_K_isRatioBelowKept 5 ((Option.some FieldType.boolean)) :: al_K
abbrev b_K_isPowerWithinKept : ByteArray := prog_2_method_10_code
def y_K_isPowerWithinKept : MethodName := ⟨R_K, "isPowerWithinKept", "(JI)Z"⟩
def w_K_isPowerWithinKept : List Cond := .code y_K_isPowerWithinKept b_K_isPowerWithinKept 5 ((Option.some FieldType.boolean)) :: al_K
abbrev b_K_setFlatAngle : ByteArray := prog_2_method_11_code
def y_K_setFlatAngle : MethodName := ⟨R_K, "setFlatAngle", "(JJ)V"⟩
def w_K_setFlatAngle : List Cond := .code y_K_setFlatAngle b_K_setFlatAngle 11 ((Option.none : Option FieldType)) :: al_K
abbrev b_K_sumOddPowers : ByteArray := prog_2_method_12_code
def y_K_sumOddPowers : MethodName := ⟨R_K, "sumOddPowers", "(Z)V"⟩
def w_K_sumOddPowers : List Cond := .code y_K_sumOddPowers b_K_sumOddPowers 3 ((Option.none : Option FieldType)) :: al_K
abbrev b_K_sumFactorials : ByteArray := prog_2_method_13_code
def y_K_sumFactorials : MethodName := ⟨R_K, "sumFactorials", "(I)V"⟩
def w_K_sumFactorials : List Cond := .code y_K_sumFactorials b_K_sumFactorials 4 ((Option.none : Option FieldType)) :: al_K
abbrev b_Math_abs_JJ : ByteArray := prog_10_method_61_code
def y_Math_abs_JJ : MethodName := ⟨"java/lang/Math", "abs", "(J)J"⟩
def w_Math_abs_JJ : List Cond := [.code y_Math_abs_JJ b_Math_abs_JJ 2 ((Option.some FieldType.long))]
abbrev b_Math_abs_II : ByteArray := prog_10_method_59_code
def y_Math_abs_II : MethodName := ⟨"java/lang/Math", "abs", "(I)I"⟩
def w_Math_abs_II : List Cond := [.code y_Math_abs_II b_Math_abs_II 1 ((Option.some FieldType.int))]
abbrev b_Math_min_JJJ : ByteArray := prog_10_method_70_code
def y_Math_min_JJJ : MethodName := ⟨"java/lang/Math", "min", "(JJ)J"⟩
def w_Math_min_JJJ : List Cond := [.code y_Math_min_JJJ b_Math_min_JJJ 4 ((Option.some FieldType.long))]
abbrev b_Math_max_JJJ : ByteArray := prog_10_method_66_code
def y_Math_max_JJJ : MethodName := ⟨"java/lang/Math", "max", "(JJ)J"⟩
def w_Math_max_JJJ : List Cond := [.code y_Math_max_JJJ b_Math_max_JJJ 4 ((Option.some FieldType.long))]
abbrev b_T_init : ByteArray := prog_3_method_1_code
def y_T_init : MethodName := ⟨R_T, "<init>", "()V"⟩
def w_T_init : List Cond := .code y_T_init b_T_init 1 ((Option.none : Option FieldType)) :: al_T
abbrev b_T_isFull : ByteArray := prog_3_method_2_code
def y_T_isFull : MethodName := ⟨R_T, "isFull", "()Z"⟩
def w_T_isFull : List Cond := .code y_T_isFull b_T_isFull 1 ((Option.some FieldType.boolean)) :: al_T
abbrev b_T_append : ByteArray := prog_3_method_3_code
def y_T_append : MethodName := ⟨R_T, "append", "(II)I"⟩
def w_T_append : List Cond := .code y_T_append b_T_append 3 ((Option.some FieldType.int)) :: al_T
abbrev b_T_valueBy : ByteArray := prog_3_method_4_code
def y_T_valueBy : MethodName := ⟨R_T, "valueBy", "(I)J"⟩
def w_T_valueBy : List Cond := .code y_T_valueBy b_T_valueBy 3 ((Option.some FieldType.long)) :: al_T
abbrev b_T_valueBefore : ByteArray := prog_3_method_5_code
def y_T_valueBefore : MethodName := ⟨R_T, "valueBefore", "(II)J"⟩
def w_T_valueBefore : List Cond := .code y_T_valueBefore b_T_valueBefore 9 ((Option.some FieldType.long)) :: al_T
abbrev b_Math_floorDiv_JJJ : ByteArray := prog_10_method_49_code
def y_Math_floorDiv_JJJ : MethodName := ⟨"java/lang/Math", "floorDiv", "(JJ)J"⟩
def w_Math_floorDiv_JJJ : List Cond := [.code y_Math_floorDiv_JJJ b_Math_floorDiv_JJJ 6 ((Option.some FieldType.long))]
abbrev b_F_init : ByteArray := prog_1_method_1_code
def y_F_init : MethodName := ⟨R_F, "<init>", "(J)V"⟩
def w_F_init : List Cond := .code y_F_init b_F_init 4 ((Option.none : Option FieldType)) :: al_F
abbrev b_F_power : ByteArray := prog_1_method_2_code
def y_F_power : MethodName := ⟨R_F, "power", "(I)J"⟩
def w_F_power : List Cond := .code y_F_power b_F_power 2 ((Option.some FieldType.long)) :: al_F
abbrev b_F_logarithm : ByteArray := prog_1_method_3_code
def y_F_logarithm : MethodName := ⟨R_F, "logarithm", "(J)J"⟩
def w_F_logarithm : List Cond := .code y_F_logarithm b_F_logarithm 3 ((Option.some FieldType.long)) :: al_F
abbrev b_F_sine : ByteArray := prog_1_method_4_code
def y_F_sine : MethodName := ⟨R_F, "sine", "(I)J"⟩
def w_F_sine : List Cond := .code y_F_sine b_F_sine 2 ((Option.some FieldType.long)) :: al_F
abbrev b_F_cosine : ByteArray := prog_1_method_5_code
def y_F_cosine : MethodName := ⟨R_F, "cosine", "(I)J"⟩
def w_F_cosine : List Cond := .code y_F_cosine b_F_cosine 2 ((Option.some FieldType.long)) :: al_F
abbrev b_F_angle : ByteArray := prog_1_method_6_code
def y_F_angle : MethodName := ⟨R_F, "angle", "(II)J"⟩
def w_F_angle : List Cond := .code y_F_angle b_F_angle 3 ((Option.some FieldType.long)) :: al_F
abbrev b_F_root : ByteArray := prog_1_method_7_code
def y_F_root : MethodName := ⟨R_F, "root", "(JI)J"⟩
def w_F_root : List Cond := .code y_F_root b_F_root 4 ((Option.some FieldType.long)) :: al_F
abbrev b_F_damp : ByteArray := prog_1_method_8_code
def y_F_damp : MethodName := ⟨R_F, "damp", "(II)J"⟩
def w_F_damp : List Cond := .code y_F_damp b_F_damp 3 ((Option.some FieldType.long)) :: al_F
abbrev b_F_dew : ByteArray := prog_1_method_9_code
def y_F_dew : MethodName := ⟨R_F, "dew", "(I)J"⟩
def w_F_dew : List Cond := .code y_F_dew b_F_dew 6 ((Option.some FieldType.long)) :: al_F
abbrev b_F_table : ByteArray := prog_1_method_10_code
def y_F_table : MethodName := ⟨R_F, "table", "()I"⟩
def w_F_table : List Cond := .code y_F_table b_F_table 1 ((Option.some FieldType.int)) :: al_F
abbrev b_F_row : ByteArray := prog_1_method_11_code
def y_F_row : MethodName := ⟨R_F, "row", "(III)I"⟩
def w_F_row : List Cond := .code y_F_row b_F_row 5 ((Option.some FieldType.int)) :: al_F
abbrev b_F_at : ByteArray := prog_1_method_12_code
def y_F_at : MethodName := ⟨R_F, "at", "(II)J"⟩
def w_F_at : List Cond := .code y_F_at b_F_at 3 ((Option.some FieldType.long)) :: al_F
abbrev b_F_drawn : ByteArray := prog_1_method_13_code
def y_F_drawn : MethodName := ⟨R_F, "drawn", "(JI)I"⟩
def w_F_drawn : List Cond := .code y_F_drawn b_F_drawn 6 ((Option.some FieldType.int)) :: al_F
abbrev b_F_join : ByteArray := prog_1_method_14_code
def y_F_join : MethodName := ⟨R_F, "join", "(III)J"⟩
def w_F_join : List Cond := .code y_F_join b_F_join 10 ((Option.some FieldType.long)) :: al_F
abbrev b_F_demandWithin : ByteArray := prog_1_method_15_code
def y_F_demandWithin : MethodName := ⟨R_F, "demandWithin", "(JJJ)V"⟩
def w_F_demandWithin : List Cond := .code y_F_demandWithin b_F_demandWithin 6 ((Option.none : Option FieldType)) :: al_F
abbrev b_F_tableOf : ByteArray := prog_1_method_16_code
def y_F_tableOf : MethodName := ⟨R_F, "tableOf", "(I)LHouseFunctions$Table;"⟩
def w_F_tableOf : List Cond := .code y_F_tableOf b_F_tableOf 2 ((Option.some (FieldType.object "HouseFunctions$Table"))) :: al_F
abbrev b_F_isBelowKeptLog : ByteArray := prog_1_method_17_code
def y_F_isBelowKeptLog : MethodName := ⟨R_F, "isBelowKeptLog", "(I)Z"⟩
def w_F_isBelowKeptLog : List Cond := .code y_F_isBelowKeptLog b_F_isBelowKeptLog 2 ((Option.some FieldType.boolean)) :: al_F
abbrev b_Math_floorDiv_III : ByteArray := prog_10_method_47_code
def y_Math_floorDiv_III : MethodName := ⟨"java/lang/Math", "floorDiv", "(II)I"⟩
def w_Math_floorDiv_III : List Cond := [.code y_Math_floorDiv_III b_Math_floorDiv_III 3 ((Option.some FieldType.int))]
abbrev b_M_init : ByteArray := prog_6_method_1_code
def y_M_init : MethodName := ⟨R_M, "<init>", "(J)V"⟩
def w_M_init : List Cond := .code y_M_init b_M_init 3 ((Option.none : Option FieldType)) :: al_M
abbrev b_M_thrown : ByteArray := prog_6_method_2_code
def y_M_thrown : MethodName := ⟨R_M, "thrown", "()I"⟩
def w_M_thrown : List Cond := .code y_M_thrown b_M_thrown 1 ((Option.some FieldType.int)) :: al_M
abbrev b_M_whole : ByteArray := prog_6_method_3_code
def y_M_whole : MethodName := ⟨R_M, "whole", "(IJ)V"⟩
def w_M_whole : List Cond := .code y_M_whole b_M_whole 7 ((Option.none : Option FieldType)) :: al_M
abbrev b_M_copy : ByteArray := prog_6_method_4_code
def y_M_copy : MethodName := ⟨R_M, "copy", "(II)V"⟩
def w_M_copy : List Cond := .code y_M_copy b_M_copy 4 ((Option.none : Option FieldType)) :: al_M
abbrev b_M_isNothing : ByteArray := prog_6_method_5_code
def y_M_isNothing : MethodName := ⟨R_M, "isNothing", "(I)Z"⟩
def w_M_isNothing : List Cond := .code y_M_isNothing b_M_isNothing 4 ((Option.some FieldType.boolean)) :: al_M
abbrev b_M_add : ByteArray := prog_6_method_6_code
def y_M_add : MethodName := ⟨R_M, "add", "(II)V"⟩
def w_M_add : List Cond := .code y_M_add b_M_add 8 ((Option.none : Option FieldType)) :: al_M
abbrev b_M_less : ByteArray := prog_6_method_7_code
def y_M_less : MethodName := ⟨R_M, "less", "(II)V"⟩
def w_M_less : List Cond := .code y_M_less b_M_less 8 ((Option.none : Option FieldType)) :: al_M
abbrev b_M_against : ByteArray := prog_6_method_8_code
def y_M_against : MethodName := ⟨R_M, "against", "(II)I"⟩
def w_M_against : List Cond := .code y_M_against b_M_against 8 ((Option.some FieldType.int)) :: al_M
abbrev b_M_times : ByteArray := prog_6_method_9_code
def y_M_times : MethodName := ⟨R_M, "times", "(IJ)V"⟩
def w_M_times : List Cond := .code y_M_times b_M_times 9 ((Option.none : Option FieldType)) :: al_M
abbrev b_M_by : ByteArray := prog_6_method_10_code
def y_M_by : MethodName := ⟨R_M, "by", "(IJ)V"⟩
def w_M_by : List Cond := .code y_M_by b_M_by 9 ((Option.none : Option FieldType)) :: al_M
abbrev b_M_ratio : ByteArray := prog_6_method_11_code
def y_M_ratio : MethodName := ⟨R_M, "ratio", "(IJJ)V"⟩
def w_M_ratio : List Cond := .code y_M_ratio b_M_ratio 6 ((Option.none : Option FieldType)) :: al_M
abbrev b_M_multiply : ByteArray := prog_6_method_12_code
def y_M_multiply : MethodName := ⟨R_M, "multiply", "(III)V"⟩
def w_M_multiply : List Cond := .code y_M_multiply b_M_multiply 9 ((Option.none : Option FieldType)) :: al_M
abbrev b_M_isOpen : ByteArray := prog_6_method_13_code
def y_M_isOpen : MethodName := ⟨R_M, "isOpen", "(I)Z"⟩
def w_M_isOpen : List Cond := .code y_M_isOpen b_M_isOpen 5 ((Option.some FieldType.boolean)) :: al_M
abbrev b_M_before : ByteArray := prog_6_method_14_code
def y_M_before : MethodName := ⟨R_M, "before", "(I)J"⟩
def w_M_before : List Cond := .code y_M_before b_M_before 5 ((Option.some FieldType.long)) :: al_M
abbrev b_M_told : ByteArray := prog_6_method_15_code
def y_M_told : MethodName := ⟨R_M, "told", "(IZ)J"⟩
def w_M_told : List Cond := .code y_M_told b_M_told 3 ((Option.some FieldType.long)) :: al_M
abbrev b_M_powerOf : ByteArray := prog_6_method_16_code
def y_M_powerOf : MethodName := ⟨R_M, "powerOf", "(Z)V"⟩
def w_M_powerOf : List Cond := .code y_M_powerOf b_M_powerOf 3 ((Option.none : Option FieldType)) :: al_M
abbrev b_M_raised : ByteArray := prog_6_method_17_code
def y_M_raised : MethodName := ⟨R_M, "raised", "(JJ)V"⟩
def w_M_raised : List Cond := .code y_M_raised b_M_raised 6 ((Option.none : Option FieldType)) :: al_M
abbrev b_M_logarithmOf : ByteArray := prog_6_method_18_code
def y_M_logarithmOf : MethodName := ⟨R_M, "logarithmOf", "(J)V"⟩
def w_M_logarithmOf : List Cond := .code y_M_logarithmOf b_M_logarithmOf 6 ((Option.none : Option FieldType)) :: al_M
abbrev b_M_angleOfOne : ByteArray := prog_6_method_19_code
def y_M_angleOfOne : MethodName := ⟨R_M, "angleOfOne", "(IJJ)V"⟩
def w_M_angleOfOne : List Cond := .code y_M_angleOfOne b_M_angleOfOne 7 ((Option.none : Option FieldType)) :: al_M
abbrev b_M_half : ByteArray := prog_6_method_20_code
def y_M_half : MethodName := ⟨R_M, "half", "()V"⟩
def w_M_half : List Cond := .code y_M_half b_M_half 1 ((Option.none : Option FieldType)) :: al_M
abbrev b_M_angleOf : ByteArray := prog_6_method_21_code
def y_M_angleOf : MethodName := ⟨R_M, "angleOf", "(JJ)V"⟩
def w_M_angleOf : List Cond := .code y_M_angleOf b_M_angleOf 8 ((Option.none : Option FieldType)) :: al_M
abbrev b_M_quarter : ByteArray := prog_6_method_22_code
def y_M_quarter : MethodName := ⟨R_M, "quarter", "(Z)V"⟩
def w_M_quarter : List Cond := .code y_M_quarter b_M_quarter 3 ((Option.none : Option FieldType)) :: al_M
abbrev b_M_power : ByteArray := prog_6_method_23_code
def y_M_power : MethodName := ⟨R_M, "power", "(I)J"⟩
def w_M_power : List Cond := .code y_M_power b_M_power 5 ((Option.some FieldType.long)) :: al_M
abbrev b_M_logarithm : ByteArray := prog_6_method_24_code
def y_M_logarithm : MethodName := ⟨R_M, "logarithm", "(J)J"⟩
def w_M_logarithm : List Cond := .code y_M_logarithm b_M_logarithm 7 ((Option.some FieldType.long)) :: al_M
abbrev b_M_wave : ByteArray := prog_6_method_25_code
def y_M_wave : MethodName := ⟨R_M, "wave", "(IZ)J"⟩
def w_M_wave : List Cond := .code y_M_wave b_M_wave 7 ((Option.some FieldType.long)) :: al_M
abbrev b_M_sine : ByteArray := prog_6_method_26_code
def y_M_sine : MethodName := ⟨R_M, "sine", "(I)J"⟩
def w_M_sine : List Cond := .code y_M_sine b_M_sine 2 ((Option.some FieldType.long)) :: al_M
abbrev b_M_cosine : ByteArray := prog_6_method_27_code
def y_M_cosine : MethodName := ⟨R_M, "cosine", "(I)J"⟩
def w_M_cosine : List Cond := .code y_M_cosine b_M_cosine 2 ((Option.some FieldType.long)) :: al_M
abbrev b_M_angle : ByteArray := prog_6_method_28_code
def y_M_angle : MethodName := ⟨R_M, "angle", "(II)J"⟩
def w_M_angle : List Cond := .code y_M_angle b_M_angle 10 ((Option.some FieldType.long)) :: al_M
abbrev b_M_root : ByteArray := prog_6_method_29_code
def y_M_root : MethodName := ⟨R_M, "root", "(JI)J"⟩
def w_M_root : List Cond := .code y_M_root b_M_root 11 ((Option.some FieldType.long)) :: al_M
abbrev b_M_pressure : ByteArray := prog_6_method_30_code
def y_M_pressure : MethodName := ⟨R_M, "pressure", "(II)J"⟩
def w_M_pressure : List Cond := .code y_M_pressure b_M_pressure 6 ((Option.some FieldType.long)) :: al_M
abbrev b_M_isWarmth : ByteArray := prog_6_method_31_code
def y_M_isWarmth : MethodName := ⟨R_M, "isWarmth", "(I)Z"⟩
def w_M_isWarmth : List Cond := .code y_M_isWarmth b_M_isWarmth 1 ((Option.some FieldType.boolean)) :: al_M
abbrev b_M_damp : ByteArray := prog_6_method_32_code
def y_M_damp : MethodName := ⟨R_M, "damp", "(II)J"⟩
def w_M_damp : List Cond := .code y_M_damp b_M_damp 3 ((Option.some FieldType.long)) :: al_M
abbrev b_M_dew : ByteArray := prog_6_method_33_code
def y_M_dew : MethodName := ⟨R_M, "dew", "(I)J"⟩
def w_M_dew : List Cond := .code y_M_dew b_M_dew 5 ((Option.some FieldType.long)) :: al_M
abbrev b_M_table : ByteArray := prog_6_method_34_code
def y_M_table : MethodName := ⟨R_M, "table", "()I"⟩
def w_M_table : List Cond := .code y_M_table b_M_table 1 ((Option.some FieldType.int)) :: al_M
abbrev b_M_isNumber : ByteArray := prog_6_method_35_code
def y_M_isNumber : MethodName := ⟨R_M, "isNumber", "(I)Z"⟩
def w_M_isNumber : List Cond := .code y_M_isNumber b_M_isNumber 1 ((Option.some FieldType.boolean)) :: al_M
abbrev b_M_isTable : ByteArray := prog_6_method_36_code
def y_M_isTable : MethodName := ⟨R_M, "isTable", "(I)Z"⟩
def w_M_isTable : List Cond := .code y_M_isTable b_M_isTable 2 ((Option.some FieldType.boolean)) :: al_M
abbrev b_M_row : ByteArray := prog_6_method_37_code
def y_M_row : MethodName := ⟨R_M, "row", "(III)I"⟩
def w_M_row : List Cond := .code y_M_row b_M_row 5 ((Option.some FieldType.int)) :: al_M
abbrev b_M_down : ByteArray := prog_6_method_38_code
def y_M_down : MethodName := ⟨R_M, "down", "(JJ)J"⟩
def w_M_down : List Cond := .code y_M_down b_M_down 6 ((Option.some FieldType.long)) :: al_M
abbrev b_M_valueAt : ByteArray := prog_6_method_39_code
def y_M_valueAt : MethodName := ⟨R_M, "valueAt", "(II)J"⟩
def w_M_valueAt : List Cond := .code y_M_valueAt b_M_valueAt 10 ((Option.some FieldType.long)) :: al_M
abbrev b_M_at : ByteArray := prog_6_method_40_code
def y_M_at : MethodName := ⟨R_M, "at", "(II)J"⟩
def w_M_at : List Cond := .code y_M_at b_M_at 3 ((Option.some FieldType.long)) :: al_M
abbrev b_M_join : ByteArray := prog_6_method_41_code
def y_M_join : MethodName := ⟨R_M, "join", "(III)J"⟩
def w_M_join : List Cond := .code y_M_join b_M_join 8 ((Option.some FieldType.long)) :: al_M
abbrev b_M_drawn : ByteArray := prog_6_method_42_code
def y_M_drawn : MethodName := ⟨R_M, "drawn", "(JI)I"⟩
def w_M_drawn : List Cond := .code y_M_drawn b_M_drawn 6 ((Option.some FieldType.int)) :: al_M
theorem g_W_fill : GoodIn al_W (va_wsS R_W 16 y_fill w_fill) := gi_of ag_W (List.forall_mem_cons.mpr ⟨wm_W_12, List.forall_mem_cons.mpr ⟨wm_W_77, List.forall_mem_cons.mpr ⟨wm_W_76, List.forall_mem_cons.mpr ⟨wm_W_78, fun _ h => absurd h List.not_mem_nil⟩⟩⟩⟩)
theorem g_W_W_subtract : GoodIn al_W (wsV R_W 31 R_W y_W_subtract w_W_subtract) := gi_of ag_W (List.forall_mem_cons.mpr ⟨wm_W_28, List.forall_mem_cons.mpr ⟨wm_W_29, List.forall_mem_cons.mpr ⟨wm_W_30, List.forall_mem_cons.mpr ⟨wm_W_0, List.forall_mem_cons.mpr ⟨wm_W_31, sb_W_W⟩⟩⟩⟩⟩)
theorem g_W_W_add : GoodIn al_W (wsV R_W 35 R_W y_W_add w_W_add) := gi_of ag_W (List.forall_mem_cons.mpr ⟨wm_W_32, List.forall_mem_cons.mpr ⟨wm_W_33, List.forall_mem_cons.mpr ⟨wm_W_34, List.forall_mem_cons.mpr ⟨wm_W_0, List.forall_mem_cons.mpr ⟨wm_W_35, sb_W_W⟩⟩⟩⟩⟩)
theorem g_W_W_multiplyAndDrop : GoodIn al_W (wsV R_W 42 R_W y_W_multiplyAndDrop w_W_multiplyAndDrop) := gi_of ag_W (List.forall_mem_cons.mpr ⟨wm_W_39, List.forall_mem_cons.mpr ⟨wm_W_40, List.forall_mem_cons.mpr ⟨wm_W_73, List.forall_mem_cons.mpr ⟨wm_W_0, List.forall_mem_cons.mpr ⟨wm_W_41, sb_W_W⟩⟩⟩⟩⟩)
theorem g_W_Math_max_III : GoodIn al_W (va_wsS R_W 46 y_Math_max_III w_Math_max_III) := gi_of ag_W (List.forall_mem_cons.mpr ⟨wm_W_42, List.forall_mem_cons.mpr ⟨wm_W_80, List.forall_mem_cons.mpr ⟨wm_W_79, List.forall_mem_cons.mpr ⟨wm_W_81, fun _ h => absurd h List.not_mem_nil⟩⟩⟩⟩)
theorem g_W_W_load : GoodIn al_W (wsV R_W 24 R_W y_W_load w_W_load) := gi_of ag_W (List.forall_mem_cons.mpr ⟨wm_W_49, List.forall_mem_cons.mpr ⟨wm_W_9, List.forall_mem_cons.mpr ⟨wm_W_10, List.forall_mem_cons.mpr ⟨wm_W_0, List.forall_mem_cons.mpr ⟨wm_W_11, sb_W_W⟩⟩⟩⟩⟩)
theorem g_W_W_divide : GoodIn al_W (wsV R_W 28 R_W y_W_divide w_W_divide) := gi_of ag_W (List.forall_mem_cons.mpr ⟨wm_W_50, List.forall_mem_cons.mpr ⟨wm_W_20, List.forall_mem_cons.mpr ⟨wm_W_21, List.forall_mem_cons.mpr ⟨wm_W_0, List.forall_mem_cons.mpr ⟨wm_W_22, sb_W_W⟩⟩⟩⟩⟩)
theorem g_K_Math_abs_JJ : GoodIn al_K (va_wsS R_K 38 y_Math_abs_JJ w_Math_abs_JJ) := gi_of ag_K (List.forall_mem_cons.mpr ⟨wm_K_19, List.forall_mem_cons.mpr ⟨wm_K_95, List.forall_mem_cons.mpr ⟨wm_K_94, List.forall_mem_cons.mpr ⟨wm_K_96, fun _ h => absurd h List.not_mem_nil⟩⟩⟩⟩)
theorem g_K_W_load : GoodIn al_K (wsV R_K 44 R_W y_W_load w_W_load) := gi_of ag_K (List.forall_mem_cons.mpr ⟨wm_K_20, List.forall_mem_cons.mpr ⟨wm_K_112, List.forall_mem_cons.mpr ⟨wm_K_113, List.forall_mem_cons.mpr ⟨wm_K_103, List.forall_mem_cons.mpr ⟨wm_K_114, sb_K_W⟩⟩⟩⟩⟩)
theorem g_K_W_isZero : GoodIn al_K (wsV R_K 47 R_W y_W_isZero w_W_isZero) := gi_of ag_K (List.forall_mem_cons.mpr ⟨wm_K_21, List.forall_mem_cons.mpr ⟨wm_K_117, List.forall_mem_cons.mpr ⟨wm_K_118, List.forall_mem_cons.mpr ⟨wm_K_103, List.forall_mem_cons.mpr ⟨wm_K_119, sb_K_W⟩⟩⟩⟩⟩)
theorem g_K_W_scale : GoodIn al_K (wsV R_K 30 R_W y_W_scale w_W_scale) := gi_of ag_K (List.forall_mem_cons.mpr ⟨wm_K_22, List.forall_mem_cons.mpr ⟨wm_K_120, List.forall_mem_cons.mpr ⟨wm_K_121, List.forall_mem_cons.mpr ⟨wm_K_103, List.forall_mem_cons.mpr ⟨wm_K_122, sb_K_W⟩⟩⟩⟩⟩)
theorem g_K_W_divide : GoodIn al_K (wsV R_K 51 R_W y_W_divide w_W_divide) := gi_of ag_K (List.forall_mem_cons.mpr ⟨wm_K_23, List.forall_mem_cons.mpr ⟨wm_K_123, List.forall_mem_cons.mpr ⟨wm_K_124, List.forall_mem_cons.mpr ⟨wm_K_103, List.forall_mem_cons.mpr ⟨wm_K_125, sb_K_W⟩⟩⟩⟩⟩)
theorem g_K_W_addOrSubtract : GoodIn al_K (wsV R_K 54 R_W y_W_addOrSubtract w_W_addOrSubtract) := gi_of ag_K (List.forall_mem_cons.mpr ⟨wm_K_24, List.forall_mem_cons.mpr ⟨wm_K_128, List.forall_mem_cons.mpr ⟨wm_K_129, List.forall_mem_cons.mpr ⟨wm_K_103, List.forall_mem_cons.mpr ⟨wm_K_130, sb_K_W⟩⟩⟩⟩⟩)
theorem g_K_W_multiply : GoodIn al_K (wsV R_K 58 R_W y_W_multiply w_W_multiply) := gi_of ag_K (List.forall_mem_cons.mpr ⟨wm_K_25, List.forall_mem_cons.mpr ⟨wm_K_139, List.forall_mem_cons.mpr ⟨wm_K_140, List.forall_mem_cons.mpr ⟨wm_K_103, List.forall_mem_cons.mpr ⟨wm_K_141, sb_K_W⟩⟩⟩⟩⟩)
theorem g_K_W_whole : GoodIn al_K (wsV R_K 34 R_W y_W_whole w_W_whole) := gi_of ag_K (List.forall_mem_cons.mpr ⟨wm_K_29, List.forall_mem_cons.mpr ⟨wm_K_146, List.forall_mem_cons.mpr ⟨wm_K_147, List.forall_mem_cons.mpr ⟨wm_K_103, List.forall_mem_cons.mpr ⟨wm_K_148, sb_K_W⟩⟩⟩⟩⟩)
theorem g_K_W_loadRatio : GoodIn al_K (wsV R_K 70 R_W y_W_loadRatio w_W_loadRatio) := gi_of ag_K (List.forall_mem_cons.mpr ⟨wm_K_37, List.forall_mem_cons.mpr ⟨wm_K_149, List.forall_mem_cons.mpr ⟨wm_K_150, List.forall_mem_cons.mpr ⟨wm_K_103, List.forall_mem_cons.mpr ⟨wm_K_151, sb_K_W⟩⟩⟩⟩⟩)
theorem g_K_K_sumOddPowers : GoodIn al_K (wsV R_K 74 R_K y_K_sumOddPowers w_K_sumOddPowers) := gi_of ag_K (List.forall_mem_cons.mpr ⟨wm_K_38, List.forall_mem_cons.mpr ⟨wm_K_39, List.forall_mem_cons.mpr ⟨wm_K_88, List.forall_mem_cons.mpr ⟨wm_K_0, List.forall_mem_cons.mpr ⟨wm_K_40, sb_K_K⟩⟩⟩⟩⟩)
theorem g_K_W_loadWide : GoodIn al_K (wsV R_K 104 R_W y_W_loadWide w_W_loadWide) := gi_of ag_K (List.forall_mem_cons.mpr ⟨wm_K_41, List.forall_mem_cons.mpr ⟨wm_K_154, List.forall_mem_cons.mpr ⟨wm_K_155, List.forall_mem_cons.mpr ⟨wm_K_103, List.forall_mem_cons.mpr ⟨wm_K_156, sb_K_W⟩⟩⟩⟩⟩)
theorem g_K_W_negate : GoodIn al_K (wsV R_K 78 R_W y_W_negate w_W_negate) := gi_of ag_K (List.forall_mem_cons.mpr ⟨wm_K_42, List.forall_mem_cons.mpr ⟨wm_K_157, List.forall_mem_cons.mpr ⟨wm_K_158, List.forall_mem_cons.mpr ⟨wm_K_103, List.forall_mem_cons.mpr ⟨wm_K_159, sb_K_W⟩⟩⟩⟩⟩)
theorem g_K_W_loadLimbs : GoodIn al_K (wsV R_K 85 R_W y_W_loadLimbs w_W_loadLimbs) := gi_of ag_K (List.forall_mem_cons.mpr ⟨wm_K_44, List.forall_mem_cons.mpr ⟨wm_K_160, List.forall_mem_cons.mpr ⟨wm_K_161, List.forall_mem_cons.mpr ⟨wm_K_103, List.forall_mem_cons.mpr ⟨wm_K_162, sb_K_W⟩⟩⟩⟩⟩)
theorem g_K_Math_abs_II : GoodIn al_K (va_wsS R_K 89 y_Math_abs_II w_Math_abs_II) := gi_of ag_K (List.forall_mem_cons.mpr ⟨wm_K_45, List.forall_mem_cons.mpr ⟨wm_K_97, List.forall_mem_cons.mpr ⟨wm_K_94, List.forall_mem_cons.mpr ⟨wm_K_98, fun _ h => absurd h List.not_mem_nil⟩⟩⟩⟩)
theorem g_K_W_subtract : GoodIn al_K (wsV R_K 101 R_W y_W_subtract w_W_subtract) := gi_of ag_K (List.forall_mem_cons.mpr ⟨wm_K_53, List.forall_mem_cons.mpr ⟨wm_K_132, List.forall_mem_cons.mpr ⟨wm_K_133, List.forall_mem_cons.mpr ⟨wm_K_103, List.forall_mem_cons.mpr ⟨wm_K_134, sb_K_W⟩⟩⟩⟩⟩)
theorem g_K_K_sumFactorials : GoodIn al_K (wsV R_K 109 R_K y_K_sumFactorials w_K_sumFactorials) := gi_of ag_K (List.forall_mem_cons.mpr ⟨wm_K_55, List.forall_mem_cons.mpr ⟨wm_K_56, List.forall_mem_cons.mpr ⟨wm_K_89, List.forall_mem_cons.mpr ⟨wm_K_0, List.forall_mem_cons.mpr ⟨wm_K_57, sb_K_K⟩⟩⟩⟩⟩)
theorem g_K_Math_min_JJJ : GoodIn al_K (va_wsS R_K 113 y_Math_min_JJJ w_Math_min_JJJ) := gi_of ag_K (List.forall_mem_cons.mpr ⟨wm_K_61, List.forall_mem_cons.mpr ⟨wm_K_99, List.forall_mem_cons.mpr ⟨wm_K_94, List.forall_mem_cons.mpr ⟨wm_K_100, fun _ h => absurd h List.not_mem_nil⟩⟩⟩⟩)
theorem g_K_Math_max_JJJ : GoodIn al_K (va_wsS R_K 117 y_Math_max_JJJ w_Math_max_JJJ) := gi_of ag_K (List.forall_mem_cons.mpr ⟨wm_K_62, List.forall_mem_cons.mpr ⟨wm_K_101, List.forall_mem_cons.mpr ⟨wm_K_94, List.forall_mem_cons.mpr ⟨wm_K_102, fun _ h => absurd h List.not_mem_nil⟩⟩⟩⟩)
theorem g_K_K_setFlatAngle : GoodIn al_K (wsV R_K 120 R_K y_K_setFlatAngle w_K_setFlatAngle) := gi_of ag_K (List.forall_mem_cons.mpr ⟨wm_K_63, List.forall_mem_cons.mpr ⟨wm_K_64, List.forall_mem_cons.mpr ⟨wm_K_90, List.forall_mem_cons.mpr ⟨wm_K_0, List.forall_mem_cons.mpr ⟨wm_K_65, sb_K_K⟩⟩⟩⟩⟩)
theorem g_K_W_add : GoodIn al_K (wsV R_K 123 R_W y_W_add w_W_add) := gi_of ag_K (List.forall_mem_cons.mpr ⟨wm_K_69, List.forall_mem_cons.mpr ⟨wm_K_136, List.forall_mem_cons.mpr ⟨wm_K_137, List.forall_mem_cons.mpr ⟨wm_K_103, List.forall_mem_cons.mpr ⟨wm_K_138, sb_K_W⟩⟩⟩⟩⟩)
theorem g_K_W_loadInteger : GoodIn al_K (wsV R_K 126 R_W y_W_loadInteger w_W_loadInteger) := gi_of ag_K (List.forall_mem_cons.mpr ⟨wm_K_73, List.forall_mem_cons.mpr ⟨wm_K_163, List.forall_mem_cons.mpr ⟨wm_K_164, List.forall_mem_cons.mpr ⟨wm_K_103, List.forall_mem_cons.mpr ⟨wm_K_165, sb_K_W⟩⟩⟩⟩⟩)
theorem g_K_K_isPowerWithinKept : GoodIn al_K (wsV R_K 133 R_K y_K_isPowerWithinKept w_K_isPowerWithinKept) := gi_of ag_K (List.forall_mem_cons.mpr ⟨wm_K_76, List.forall_mem_cons.mpr ⟨wm_K_77, List.forall_mem_cons.mpr ⟨wm_K_91, List.forall_mem_cons.mpr ⟨wm_K_0, List.forall_mem_cons.mpr ⟨wm_K_78, sb_K_K⟩⟩⟩⟩⟩)
theorem g_K_W_multiplyInteger : GoodIn al_K (wsV R_K 140 R_W y_W_multiplyInteger w_W_multiplyInteger) := gi_of ag_K (List.forall_mem_cons.mpr ⟨wm_K_79, List.forall_mem_cons.mpr ⟨wm_K_166, List.forall_mem_cons.mpr ⟨wm_K_167, List.forall_mem_cons.mpr ⟨wm_K_103, List.forall_mem_cons.mpr ⟨wm_K_168, sb_K_W⟩⟩⟩⟩⟩)
theorem g_K_W_isAbove : GoodIn al_K (wsV R_K 143 R_W y_W_isAbove w_W_isAbove) := gi_of ag_K (List.forall_mem_cons.mpr ⟨wm_K_80, List.forall_mem_cons.mpr ⟨wm_K_169, List.forall_mem_cons.mpr ⟨wm_K_170, List.forall_mem_cons.mpr ⟨wm_K_103, List.forall_mem_cons.mpr ⟨wm_K_171, sb_K_W⟩⟩⟩⟩⟩)
theorem g_K_W_isNegative : GoodIn al_K (wsV R_K 137 R_W y_W_isNegative w_W_isNegative) := gi_of ag_K (List.forall_mem_cons.mpr ⟨wm_K_87, List.forall_mem_cons.mpr ⟨wm_K_172, List.forall_mem_cons.mpr ⟨wm_K_173, List.forall_mem_cons.mpr ⟨wm_K_103, List.forall_mem_cons.mpr ⟨wm_K_174, sb_K_W⟩⟩⟩⟩⟩)
theorem g_K_W_init : GoodIn al_K (w_W_init) := gi_of ag_K (List.forall_mem_cons.mpr ⟨wm_K_106, sb_K_W⟩)
theorem g_T_T_isFull : GoodIn al_T (wsV R_T 22 R_T y_T_isFull w_T_isFull) := gi_of ag_T (List.forall_mem_cons.mpr ⟨wm_T_17, List.forall_mem_cons.mpr ⟨wm_T_11, List.forall_mem_cons.mpr ⟨wm_T_12, List.forall_mem_cons.mpr ⟨wm_T_0, List.forall_mem_cons.mpr ⟨wm_T_13, sb_T_T⟩⟩⟩⟩⟩)
theorem g_T_T_valueBefore : GoodIn al_T (wsV R_T 28 R_T y_T_valueBefore w_T_valueBefore) := gi_of ag_T (List.forall_mem_cons.mpr ⟨wm_T_22, List.forall_mem_cons.mpr ⟨wm_T_23, List.forall_mem_cons.mpr ⟨wm_T_26, List.forall_mem_cons.mpr ⟨wm_T_0, List.forall_mem_cons.mpr ⟨wm_T_24, sb_T_T⟩⟩⟩⟩⟩)
theorem g_T_Math_floorDiv_JJJ : GoodIn al_T (va_wsS R_T 32 y_Math_floorDiv_JJJ w_Math_floorDiv_JJJ) := gi_of ag_T (List.forall_mem_cons.mpr ⟨wm_T_25, List.forall_mem_cons.mpr ⟨wm_T_30, List.forall_mem_cons.mpr ⟨wm_T_29, List.forall_mem_cons.mpr ⟨wm_T_31, fun _ h => absurd h List.not_mem_nil⟩⟩⟩⟩)
theorem g_F_F_demandWithin : GoodIn al_F (va_wsS R_F 35 y_F_demandWithin w_F_demandWithin) := gi_of ag_F (List.forall_mem_cons.mpr ⟨wm_F_28, List.forall_mem_cons.mpr ⟨wm_F_29, List.forall_mem_cons.mpr ⟨wm_F_0, List.forall_mem_cons.mpr ⟨wm_F_30, sb_F_F⟩⟩⟩⟩)
theorem g_F_K_raiseE : GoodIn al_F (wsV R_F 41 R_K y_K_raiseE w_K_raiseE) := gi_of ag_F (List.forall_mem_cons.mpr ⟨wm_F_34, List.forall_mem_cons.mpr ⟨wm_F_131, List.forall_mem_cons.mpr ⟨wm_F_132, List.forall_mem_cons.mpr ⟨wm_F_115, List.forall_mem_cons.mpr ⟨wm_F_133, sb_F_K⟩⟩⟩⟩⟩)
theorem g_F_K_floorTimes : GoodIn al_F (wsV R_F 47 R_K y_K_floorTimes w_K_floorTimes) := gi_of ag_F (List.forall_mem_cons.mpr ⟨wm_F_35, List.forall_mem_cons.mpr ⟨wm_F_141, List.forall_mem_cons.mpr ⟨wm_F_142, List.forall_mem_cons.mpr ⟨wm_F_115, List.forall_mem_cons.mpr ⟨wm_F_143, sb_F_K⟩⟩⟩⟩⟩)
theorem g_F_K_takeLog : GoodIn al_F (wsV R_F 55 R_K y_K_takeLog w_K_takeLog) := gi_of ag_F (List.forall_mem_cons.mpr ⟨wm_F_41, List.forall_mem_cons.mpr ⟨wm_F_145, List.forall_mem_cons.mpr ⟨wm_F_146, List.forall_mem_cons.mpr ⟨wm_F_115, List.forall_mem_cons.mpr ⟨wm_F_147, sb_F_K⟩⟩⟩⟩⟩)
theorem g_F_Math_abs_JJ : GoodIn al_F (va_wsS R_F 62 y_Math_abs_JJ w_Math_abs_JJ) := gi_of ag_F (List.forall_mem_cons.mpr ⟨wm_F_47, List.forall_mem_cons.mpr ⟨wm_F_109, List.forall_mem_cons.mpr ⟨wm_F_108, List.forall_mem_cons.mpr ⟨wm_F_110, fun _ h => absurd h List.not_mem_nil⟩⟩⟩⟩)
theorem g_F_K_swing : GoodIn al_F (wsV R_F 67 R_K y_K_swing w_K_swing) := gi_of ag_F (List.forall_mem_cons.mpr ⟨wm_F_48, List.forall_mem_cons.mpr ⟨wm_F_161, List.forall_mem_cons.mpr ⟨wm_F_162, List.forall_mem_cons.mpr ⟨wm_F_115, List.forall_mem_cons.mpr ⟨wm_F_163, sb_F_K⟩⟩⟩⟩⟩)
theorem g_F_K_pointTo : GoodIn al_F (wsV R_F 73 R_K y_K_pointTo w_K_pointTo) := gi_of ag_F (List.forall_mem_cons.mpr ⟨wm_F_56, List.forall_mem_cons.mpr ⟨wm_F_173, List.forall_mem_cons.mpr ⟨wm_F_174, List.forall_mem_cons.mpr ⟨wm_F_115, List.forall_mem_cons.mpr ⟨wm_F_175, sb_F_K⟩⟩⟩⟩⟩)
theorem g_F_K_floorOfRoot : GoodIn al_F (wsV R_F 81 R_K y_K_floorOfRoot w_K_floorOfRoot) := gi_of ag_F (List.forall_mem_cons.mpr ⟨wm_F_62, List.forall_mem_cons.mpr ⟨wm_F_185, List.forall_mem_cons.mpr ⟨wm_F_186, List.forall_mem_cons.mpr ⟨wm_F_115, List.forall_mem_cons.mpr ⟨wm_F_187, sb_F_K⟩⟩⟩⟩⟩)
theorem g_F_K_keepLog : GoodIn al_F (wsV R_F 101 R_K y_K_keepLog w_K_keepLog) := gi_of ag_F (List.forall_mem_cons.mpr ⟨wm_F_77, List.forall_mem_cons.mpr ⟨wm_F_196, List.forall_mem_cons.mpr ⟨wm_F_197, List.forall_mem_cons.mpr ⟨wm_F_115, List.forall_mem_cons.mpr ⟨wm_F_198, sb_F_K⟩⟩⟩⟩⟩)
theorem g_F_Math_floorDiv_III : GoodIn al_F (va_wsS R_F 104 y_Math_floorDiv_III w_Math_floorDiv_III) := gi_of ag_F (List.forall_mem_cons.mpr ⟨wm_F_78, List.forall_mem_cons.mpr ⟨wm_F_111, List.forall_mem_cons.mpr ⟨wm_F_108, List.forall_mem_cons.mpr ⟨wm_F_112, fun _ h => absurd h List.not_mem_nil⟩⟩⟩⟩)
theorem g_F_F_isBelowKeptLog : GoodIn al_F (wsV R_F 108 R_F y_F_isBelowKeptLog w_F_isBelowKeptLog) := gi_of ag_F (List.forall_mem_cons.mpr ⟨wm_F_79, List.forall_mem_cons.mpr ⟨wm_F_80, List.forall_mem_cons.mpr ⟨wm_F_104, List.forall_mem_cons.mpr ⟨wm_F_0, List.forall_mem_cons.mpr ⟨wm_F_81, sb_F_F⟩⟩⟩⟩⟩)
theorem g_F_K_isRatioBelowKept : GoodIn al_F (wsV R_F 153 R_K y_K_isRatioBelowKept w_K_isRatioBelowKept) := gi_of ag_F (List.forall_mem_cons.mpr ⟨wm_F_82, List.forall_mem_cons.mpr ⟨wm_F_199, List.forall_mem_cons.mpr ⟨wm_F_200, List.forall_mem_cons.mpr ⟨wm_F_115, List.forall_mem_cons.mpr ⟨wm_F_201, sb_F_K⟩⟩⟩⟩⟩)
theorem g_F_F_tableOf : GoodIn al_F (wsV R_F 119 R_F y_F_tableOf w_F_tableOf) := gi_of ag_F (List.forall_mem_cons.mpr ⟨wm_F_91, List.forall_mem_cons.mpr ⟨wm_F_92, List.forall_mem_cons.mpr ⟨wm_F_105, List.forall_mem_cons.mpr ⟨wm_F_0, List.forall_mem_cons.mpr ⟨wm_F_93, sb_F_F⟩⟩⟩⟩⟩)
theorem g_F_T_isFull : GoodIn al_F (wsV R_F 125 R_T y_T_isFull w_T_isFull) := gi_of ag_F (List.forall_mem_cons.mpr ⟨wm_F_95, List.forall_mem_cons.mpr ⟨wm_F_312, List.forall_mem_cons.mpr ⟨wm_F_313, List.forall_mem_cons.mpr ⟨wm_F_301, List.forall_mem_cons.mpr ⟨wm_F_314, sb_F_T⟩⟩⟩⟩⟩)
theorem g_F_T_append : GoodIn al_F (wsV R_F 131 R_T y_T_append w_T_append) := gi_of ag_F (List.forall_mem_cons.mpr ⟨wm_F_96, List.forall_mem_cons.mpr ⟨wm_F_315, List.forall_mem_cons.mpr ⟨wm_F_316, List.forall_mem_cons.mpr ⟨wm_F_301, List.forall_mem_cons.mpr ⟨wm_F_317, sb_F_T⟩⟩⟩⟩⟩)
theorem g_F_T_valueBy : GoodIn al_F (wsV R_F 134 R_T y_T_valueBy w_T_valueBy) := gi_of ag_F (List.forall_mem_cons.mpr ⟨wm_F_100, List.forall_mem_cons.mpr ⟨wm_F_319, List.forall_mem_cons.mpr ⟨wm_F_320, List.forall_mem_cons.mpr ⟨wm_F_301, List.forall_mem_cons.mpr ⟨wm_F_321, sb_F_T⟩⟩⟩⟩⟩)
theorem g_F_T_init : GoodIn al_F (w_T_init) := gi_of ag_F (List.forall_mem_cons.mpr ⟨wm_F_304, sb_F_T⟩)
theorem g_F_K_init : GoodIn al_F (w_K_init) := gi_of ag_F (List.forall_mem_cons.mpr ⟨wm_F_118, sb_F_K⟩)
theorem g_M_M_ratio : GoodIn al_M (wsV R_M 77 R_M y_M_ratio w_M_ratio) := gi_of ag_M (List.forall_mem_cons.mpr ⟨wm_M_33, List.forall_mem_cons.mpr ⟨wm_M_34, List.forall_mem_cons.mpr ⟨wm_M_174, List.forall_mem_cons.mpr ⟨wm_M_0, List.forall_mem_cons.mpr ⟨wm_M_35, sb_M_M⟩⟩⟩⟩⟩)
theorem g_M_M_whole : GoodIn al_M (wsV R_M 39 R_M y_M_whole w_M_whole) := gi_of ag_M (List.forall_mem_cons.mpr ⟨wm_M_36, List.forall_mem_cons.mpr ⟨wm_M_37, List.forall_mem_cons.mpr ⟨wm_M_175, List.forall_mem_cons.mpr ⟨wm_M_0, List.forall_mem_cons.mpr ⟨wm_M_38, sb_M_M⟩⟩⟩⟩⟩)
theorem g_M_M_by : GoodIn al_M (wsV R_M 43 R_M y_M_by w_M_by) := gi_of ag_M (List.forall_mem_cons.mpr ⟨wm_M_39, List.forall_mem_cons.mpr ⟨wm_M_40, List.forall_mem_cons.mpr ⟨wm_M_176, List.forall_mem_cons.mpr ⟨wm_M_0, List.forall_mem_cons.mpr ⟨wm_M_41, sb_M_M⟩⟩⟩⟩⟩)
theorem g_M_M_powerOf : GoodIn al_M (wsV R_M 102 R_M y_M_powerOf w_M_powerOf) := gi_of ag_M (List.forall_mem_cons.mpr ⟨wm_M_42, List.forall_mem_cons.mpr ⟨wm_M_43, List.forall_mem_cons.mpr ⟨wm_M_177, List.forall_mem_cons.mpr ⟨wm_M_0, List.forall_mem_cons.mpr ⟨wm_M_44, sb_M_M⟩⟩⟩⟩⟩)
theorem g_M_M_copy : GoodIn al_M (wsV R_M 57 R_M y_M_copy w_M_copy) := gi_of ag_M (List.forall_mem_cons.mpr ⟨wm_M_45, List.forall_mem_cons.mpr ⟨wm_M_46, List.forall_mem_cons.mpr ⟨wm_M_178, List.forall_mem_cons.mpr ⟨wm_M_0, List.forall_mem_cons.mpr ⟨wm_M_47, sb_M_M⟩⟩⟩⟩⟩)
theorem g_M_M_isNothing : GoodIn al_M (wsV R_M 63 R_M y_M_isNothing w_M_isNothing) := gi_of ag_M (List.forall_mem_cons.mpr ⟨wm_M_49, List.forall_mem_cons.mpr ⟨wm_M_50, List.forall_mem_cons.mpr ⟨wm_M_179, List.forall_mem_cons.mpr ⟨wm_M_0, List.forall_mem_cons.mpr ⟨wm_M_51, sb_M_M⟩⟩⟩⟩⟩)
theorem g_M_M_multiply : GoodIn al_M (wsV R_M 67 R_M y_M_multiply w_M_multiply) := gi_of ag_M (List.forall_mem_cons.mpr ⟨wm_M_52, List.forall_mem_cons.mpr ⟨wm_M_53, List.forall_mem_cons.mpr ⟨wm_M_180, List.forall_mem_cons.mpr ⟨wm_M_0, List.forall_mem_cons.mpr ⟨wm_M_54, sb_M_M⟩⟩⟩⟩⟩)
theorem g_M_M_less : GoodIn al_M (wsV R_M 71 R_M y_M_less w_M_less) := gi_of ag_M (List.forall_mem_cons.mpr ⟨wm_M_55, List.forall_mem_cons.mpr ⟨wm_M_56, List.forall_mem_cons.mpr ⟨wm_M_181, List.forall_mem_cons.mpr ⟨wm_M_0, List.forall_mem_cons.mpr ⟨wm_M_57, sb_M_M⟩⟩⟩⟩⟩)
theorem g_M_M_add : GoodIn al_M (wsV R_M 74 R_M y_M_add w_M_add) := gi_of ag_M (List.forall_mem_cons.mpr ⟨wm_M_58, List.forall_mem_cons.mpr ⟨wm_M_59, List.forall_mem_cons.mpr ⟨wm_M_182, List.forall_mem_cons.mpr ⟨wm_M_0, List.forall_mem_cons.mpr ⟨wm_M_60, sb_M_M⟩⟩⟩⟩⟩)
theorem g_M_M_told : GoodIn al_M (wsV R_M 106 R_M y_M_told w_M_told) := gi_of ag_M (List.forall_mem_cons.mpr ⟨wm_M_61, List.forall_mem_cons.mpr ⟨wm_M_62, List.forall_mem_cons.mpr ⟨wm_M_183, List.forall_mem_cons.mpr ⟨wm_M_0, List.forall_mem_cons.mpr ⟨wm_M_63, sb_M_M⟩⟩⟩⟩⟩)
theorem g_M_M_times : GoodIn al_M (wsV R_M 50 R_M y_M_times w_M_times) := gi_of ag_M (List.forall_mem_cons.mpr ⟨wm_M_64, List.forall_mem_cons.mpr ⟨wm_M_65, List.forall_mem_cons.mpr ⟨wm_M_184, List.forall_mem_cons.mpr ⟨wm_M_0, List.forall_mem_cons.mpr ⟨wm_M_66, sb_M_M⟩⟩⟩⟩⟩)
theorem g_M_M_before : GoodIn al_M (wsV R_M 53 R_M y_M_before w_M_before) := gi_of ag_M (List.forall_mem_cons.mpr ⟨wm_M_67, List.forall_mem_cons.mpr ⟨wm_M_68, List.forall_mem_cons.mpr ⟨wm_M_185, List.forall_mem_cons.mpr ⟨wm_M_0, List.forall_mem_cons.mpr ⟨wm_M_69, sb_M_M⟩⟩⟩⟩⟩)
theorem g_M_M_isOpen : GoodIn al_M (wsV R_M 110 R_M y_M_isOpen w_M_isOpen) := gi_of ag_M (List.forall_mem_cons.mpr ⟨wm_M_70, List.forall_mem_cons.mpr ⟨wm_M_71, List.forall_mem_cons.mpr ⟨wm_M_186, List.forall_mem_cons.mpr ⟨wm_M_0, List.forall_mem_cons.mpr ⟨wm_M_72, sb_M_M⟩⟩⟩⟩⟩)
theorem g_M_M_logarithmOf : GoodIn al_M (wsV R_M 117 R_M y_M_logarithmOf w_M_logarithmOf) := gi_of ag_M (List.forall_mem_cons.mpr ⟨wm_M_79, List.forall_mem_cons.mpr ⟨wm_M_80, List.forall_mem_cons.mpr ⟨wm_M_187, List.forall_mem_cons.mpr ⟨wm_M_0, List.forall_mem_cons.mpr ⟨wm_M_81, sb_M_M⟩⟩⟩⟩⟩)
theorem g_M_M_raised : GoodIn al_M (wsV R_M 85 R_M y_M_raised w_M_raised) := gi_of ag_M (List.forall_mem_cons.mpr ⟨wm_M_84, List.forall_mem_cons.mpr ⟨wm_M_85, List.forall_mem_cons.mpr ⟨wm_M_188, List.forall_mem_cons.mpr ⟨wm_M_0, List.forall_mem_cons.mpr ⟨wm_M_86, sb_M_M⟩⟩⟩⟩⟩)
theorem g_M_M_wave : GoodIn al_M (wsV R_M 133 R_M y_M_wave w_M_wave) := gi_of ag_M (List.forall_mem_cons.mpr ⟨wm_M_90, List.forall_mem_cons.mpr ⟨wm_M_91, List.forall_mem_cons.mpr ⟨wm_M_189, List.forall_mem_cons.mpr ⟨wm_M_0, List.forall_mem_cons.mpr ⟨wm_M_92, sb_M_M⟩⟩⟩⟩⟩)
theorem g_M_M_half : GoodIn al_M (wsV R_M 123 R_M y_M_half w_M_half) := gi_of ag_M (List.forall_mem_cons.mpr ⟨wm_M_95, List.forall_mem_cons.mpr ⟨wm_M_96, List.forall_mem_cons.mpr ⟨wm_M_190, List.forall_mem_cons.mpr ⟨wm_M_0, List.forall_mem_cons.mpr ⟨wm_M_97, sb_M_M⟩⟩⟩⟩⟩)
theorem g_M_M_angleOfOne : GoodIn al_M (wsV R_M 93 R_M y_M_angleOfOne w_M_angleOfOne) := gi_of ag_M (List.forall_mem_cons.mpr ⟨wm_M_100, List.forall_mem_cons.mpr ⟨wm_M_101, List.forall_mem_cons.mpr ⟨wm_M_191, List.forall_mem_cons.mpr ⟨wm_M_0, List.forall_mem_cons.mpr ⟨wm_M_102, sb_M_M⟩⟩⟩⟩⟩)
theorem g_M_M_against : GoodIn al_M (wsV R_M 126 R_M y_M_against w_M_against) := gi_of ag_M (List.forall_mem_cons.mpr ⟨wm_M_105, List.forall_mem_cons.mpr ⟨wm_M_106, List.forall_mem_cons.mpr ⟨wm_M_192, List.forall_mem_cons.mpr ⟨wm_M_0, List.forall_mem_cons.mpr ⟨wm_M_107, sb_M_M⟩⟩⟩⟩⟩)
theorem g_M_M_quarter : GoodIn al_M (wsV R_M 130 R_M y_M_quarter w_M_quarter) := gi_of ag_M (List.forall_mem_cons.mpr ⟨wm_M_108, List.forall_mem_cons.mpr ⟨wm_M_109, List.forall_mem_cons.mpr ⟨wm_M_193, List.forall_mem_cons.mpr ⟨wm_M_0, List.forall_mem_cons.mpr ⟨wm_M_110, sb_M_M⟩⟩⟩⟩⟩)
theorem g_M_M_angleOf : GoodIn al_M (wsV R_M 138 R_M y_M_angleOf w_M_angleOf) := gi_of ag_M (List.forall_mem_cons.mpr ⟨wm_M_119, List.forall_mem_cons.mpr ⟨wm_M_120, List.forall_mem_cons.mpr ⟨wm_M_194, List.forall_mem_cons.mpr ⟨wm_M_0, List.forall_mem_cons.mpr ⟨wm_M_121, sb_M_M⟩⟩⟩⟩⟩)
theorem g_M_M_isWarmth : GoodIn al_M (va_wsS R_M 149 y_M_isWarmth w_M_isWarmth) := gi_of ag_M (List.forall_mem_cons.mpr ⟨wm_M_130, List.forall_mem_cons.mpr ⟨wm_M_131, List.forall_mem_cons.mpr ⟨wm_M_0, List.forall_mem_cons.mpr ⟨wm_M_132, sb_M_M⟩⟩⟩⟩)
theorem g_M_M_pressure : GoodIn al_M (wsV R_M 152 R_M y_M_pressure w_M_pressure) := gi_of ag_M (List.forall_mem_cons.mpr ⟨wm_M_133, List.forall_mem_cons.mpr ⟨wm_M_134, List.forall_mem_cons.mpr ⟨wm_M_195, List.forall_mem_cons.mpr ⟨wm_M_0, List.forall_mem_cons.mpr ⟨wm_M_135, sb_M_M⟩⟩⟩⟩⟩)
theorem g_M_M_isTable : GoodIn al_M (wsV R_M 161 R_M y_M_isTable w_M_isTable) := gi_of ag_M (List.forall_mem_cons.mpr ⟨wm_M_148, List.forall_mem_cons.mpr ⟨wm_M_149, List.forall_mem_cons.mpr ⟨wm_M_196, List.forall_mem_cons.mpr ⟨wm_M_0, List.forall_mem_cons.mpr ⟨wm_M_150, sb_M_M⟩⟩⟩⟩⟩)
theorem g_M_M_isNumber : GoodIn al_M (va_wsS R_M 164 y_M_isNumber w_M_isNumber) := gi_of ag_M (List.forall_mem_cons.mpr ⟨wm_M_151, List.forall_mem_cons.mpr ⟨wm_M_152, List.forall_mem_cons.mpr ⟨wm_M_0, List.forall_mem_cons.mpr ⟨wm_M_153, sb_M_M⟩⟩⟩⟩)
theorem g_M_M_valueAt : GoodIn al_M (wsV R_M 171 R_M y_M_valueAt w_M_valueAt) := gi_of ag_M (List.forall_mem_cons.mpr ⟨wm_M_158, List.forall_mem_cons.mpr ⟨wm_M_159, List.forall_mem_cons.mpr ⟨wm_M_197, List.forall_mem_cons.mpr ⟨wm_M_0, List.forall_mem_cons.mpr ⟨wm_M_160, sb_M_M⟩⟩⟩⟩⟩)
theorem g_M_M_down : GoodIn al_M (va_wsS R_M 167 y_M_down w_M_down) := gi_of ag_M (List.forall_mem_cons.mpr ⟨wm_M_161, List.forall_mem_cons.mpr ⟨wm_M_162, List.forall_mem_cons.mpr ⟨wm_M_0, List.forall_mem_cons.mpr ⟨wm_M_163, sb_M_M⟩⟩⟩⟩)
