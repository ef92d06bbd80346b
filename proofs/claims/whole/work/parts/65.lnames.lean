def R_L : String := "HouseFunctionsLaw"
def al_L : List Jvm.Cond := [(Jvm.Cond.initialized "HouseFunctionsLaw"),
  (Jvm.Cond.classLink "HouseFunctionsLaw" (8 : Nat) "HouseFunctions"),
  (Jvm.Cond.methodLink "HouseFunctionsLaw" (62 : Nat) ({ cls := "HouseFunctions", name := "<init>", desc := "(J)V" } : Jvm.MethodName)),
  (Jvm.Cond.methodLink "HouseFunctionsLaw" (112 : Nat) ({ cls := "HouseFunctions", name := "drawn", desc := "(JI)I" } : Jvm.MethodName)),
  (Jvm.Cond.methodLink "HouseFunctionsLaw" (56 : Nat) ({ cls := "HouseFunctionsLaw", name := "cell", desc := "([II)I" } : Jvm.MethodName)),
  (Jvm.Cond.static ({ cls := "HouseFunctionsLaw", name := "cell", desc := "([II)I" } : Jvm.MethodName)),
  (Jvm.Cond.code ({ cls := "HouseFunctionsLaw", name := "cell", desc := "([II)I" } : Jvm.MethodName) method_2_code (2 : Nat) (Option.some Jvm.ClassFile.FieldType.int)),
  (Jvm.Cond.methodLink "HouseFunctionsLaw" (68 : Nat) ({ cls := "HouseFunctionsLaw", name := "power", desc := "(LHouseFunctions;I[J)I" } : Jvm.MethodName)),
  (Jvm.Cond.static ({ cls := "HouseFunctionsLaw", name := "power", desc := "(LHouseFunctions;I[J)I" } : Jvm.MethodName)),
  (Jvm.Cond.classLink "HouseFunctionsLaw" (13 : Nat) "java/lang/IllegalArgumentException"),
  (Jvm.Cond.methodLink "HouseFunctionsLaw" (7 : Nat) ({ cls := "HouseFunctions", name := "power", desc := "(I)J" } : Jvm.MethodName)),
  (Jvm.Cond.methodLink "HouseFunctionsLaw" (77 : Nat) ({ cls := "HouseFunctionsLaw", name := "logarithm", desc := "(LHouseFunctions;J[J)I" } : Jvm.MethodName)),
  (Jvm.Cond.static ({ cls := "HouseFunctionsLaw", name := "logarithm", desc := "(LHouseFunctions;J[J)I" } : Jvm.MethodName)),
  (Jvm.Cond.methodLink "HouseFunctionsLaw" (15 : Nat) ({ cls := "HouseFunctions", name := "logarithm", desc := "(J)J" } : Jvm.MethodName)),
  (Jvm.Cond.methodLink "HouseFunctionsLaw" (81 : Nat) ({ cls := "HouseFunctionsLaw", name := "sine", desc := "(LHouseFunctions;I[J)I" } : Jvm.MethodName)),
  (Jvm.Cond.static ({ cls := "HouseFunctionsLaw", name := "sine", desc := "(LHouseFunctions;I[J)I" } : Jvm.MethodName)),
  (Jvm.Cond.methodLink "HouseFunctionsLaw" (19 : Nat) ({ cls := "HouseFunctions", name := "sine", desc := "(I)J" } : Jvm.MethodName)),
  (Jvm.Cond.methodLink "HouseFunctionsLaw" (84 : Nat) ({ cls := "HouseFunctionsLaw", name := "cosine", desc := "(LHouseFunctions;I[J)I" } : Jvm.MethodName)),
  (Jvm.Cond.static ({ cls := "HouseFunctionsLaw", name := "cosine", desc := "(LHouseFunctions;I[J)I" } : Jvm.MethodName)),
  (Jvm.Cond.methodLink "HouseFunctionsLaw" (22 : Nat) ({ cls := "HouseFunctions", name := "cosine", desc := "(I)J" } : Jvm.MethodName)),
  (Jvm.Cond.methodLink "HouseFunctionsLaw" (87 : Nat) ({ cls := "HouseFunctionsLaw", name := "angle", desc := "(LHouseFunctions;II[J)I" } : Jvm.MethodName)),
  (Jvm.Cond.static ({ cls := "HouseFunctionsLaw", name := "angle", desc := "(LHouseFunctions;II[J)I" } : Jvm.MethodName)),
  (Jvm.Cond.methodLink "HouseFunctionsLaw" (25 : Nat) ({ cls := "HouseFunctions", name := "angle", desc := "(II)J" } : Jvm.MethodName)),
  (Jvm.Cond.methodLink "HouseFunctionsLaw" (91 : Nat) ({ cls := "HouseFunctionsLaw", name := "root", desc := "(LHouseFunctions;JI[J)I" } : Jvm.MethodName)),
  (Jvm.Cond.static ({ cls := "HouseFunctionsLaw", name := "root", desc := "(LHouseFunctions;JI[J)I" } : Jvm.MethodName)),
  (Jvm.Cond.methodLink "HouseFunctionsLaw" (29 : Nat) ({ cls := "HouseFunctions", name := "root", desc := "(JI)J" } : Jvm.MethodName)),
  (Jvm.Cond.methodLink "HouseFunctionsLaw" (95 : Nat) ({ cls := "HouseFunctionsLaw", name := "damp", desc := "(LHouseFunctions;II[J)I" } : Jvm.MethodName)),
  (Jvm.Cond.static ({ cls := "HouseFunctionsLaw", name := "damp", desc := "(LHouseFunctions;II[J)I" } : Jvm.MethodName)),
  (Jvm.Cond.methodLink "HouseFunctionsLaw" (33 : Nat) ({ cls := "HouseFunctions", name := "damp", desc := "(II)J" } : Jvm.MethodName)),
  (Jvm.Cond.methodLink "HouseFunctionsLaw" (98 : Nat) ({ cls := "HouseFunctionsLaw", name := "dew", desc := "(LHouseFunctions;I[J)I" } : Jvm.MethodName)),
  (Jvm.Cond.static ({ cls := "HouseFunctionsLaw", name := "dew", desc := "(LHouseFunctions;I[J)I" } : Jvm.MethodName)),
  (Jvm.Cond.methodLink "HouseFunctionsLaw" (36 : Nat) ({ cls := "HouseFunctions", name := "dew", desc := "(I)J" } : Jvm.MethodName)),
  (Jvm.Cond.methodLink "HouseFunctionsLaw" (101 : Nat) ({ cls := "HouseFunctionsLaw", name := "table", desc := "(LHouseFunctions;[J)I" } : Jvm.MethodName)),
  (Jvm.Cond.static ({ cls := "HouseFunctionsLaw", name := "table", desc := "(LHouseFunctions;[J)I" } : Jvm.MethodName)),
  (Jvm.Cond.classLink "HouseFunctionsLaw" (43 : Nat) "java/lang/IllegalStateException"),
  (Jvm.Cond.methodLink "HouseFunctionsLaw" (39 : Nat) ({ cls := "HouseFunctions", name := "table", desc := "()I" } : Jvm.MethodName)),
  (Jvm.Cond.methodLink "HouseFunctionsLaw" (105 : Nat) ({ cls := "HouseFunctionsLaw", name := "row", desc := "(LHouseFunctions;III[J)I" } : Jvm.MethodName)),
  (Jvm.Cond.static ({ cls := "HouseFunctionsLaw", name := "row", desc := "(LHouseFunctions;III[J)I" } : Jvm.MethodName)),
  (Jvm.Cond.methodLink "HouseFunctionsLaw" (45 : Nat) ({ cls := "HouseFunctions", name := "row", desc := "(III)I" } : Jvm.MethodName)),
  (Jvm.Cond.methodLink "HouseFunctionsLaw" (109 : Nat) ({ cls := "HouseFunctionsLaw", name := "at", desc := "(LHouseFunctions;II[J)I" } : Jvm.MethodName)),
  (Jvm.Cond.static ({ cls := "HouseFunctionsLaw", name := "at", desc := "(LHouseFunctions;II[J)I" } : Jvm.MethodName)),
  (Jvm.Cond.methodLink "HouseFunctionsLaw" (49 : Nat) ({ cls := "HouseFunctions", name := "at", desc := "(II)J" } : Jvm.MethodName)),
  (Jvm.Cond.methodLink "HouseFunctionsLaw" (117 : Nat) ({ cls := "HouseFunctionsLaw", name := "join", desc := "(LHouseFunctions;III[J)I" } : Jvm.MethodName)),
  (Jvm.Cond.static ({ cls := "HouseFunctionsLaw", name := "join", desc := "(LHouseFunctions;III[J)I" } : Jvm.MethodName)),
  (Jvm.Cond.methodLink "HouseFunctionsLaw" (52 : Nat) ({ cls := "HouseFunctions", name := "join", desc := "(III)J" } : Jvm.MethodName)),
  (Jvm.Cond.classLink "HouseFunctionsLaw" (65 : Nat) "HouseFunctionsModel"),
  (Jvm.Cond.methodLink "HouseFunctionsLaw" (67 : Nat) ({ cls := "HouseFunctionsModel", name := "<init>", desc := "(J)V" } : Jvm.MethodName)),
  (Jvm.Cond.methodLink "HouseFunctionsLaw" (72 : Nat) ({ cls := "HouseFunctionsModel", name := "thrown", desc := "()I" } : Jvm.MethodName)),
  (Jvm.Cond.methodLink "HouseFunctionsLaw" (71 : Nat) ({ cls := "HouseFunctionsModel", name := "power", desc := "(I)J" } : Jvm.MethodName)),
  (Jvm.Cond.methodLink "HouseFunctionsLaw" (80 : Nat) ({ cls := "HouseFunctionsModel", name := "logarithm", desc := "(J)J" } : Jvm.MethodName)),
  (Jvm.Cond.methodLink "HouseFunctionsLaw" (83 : Nat) ({ cls := "HouseFunctionsModel", name := "sine", desc := "(I)J" } : Jvm.MethodName)),
  (Jvm.Cond.methodLink "HouseFunctionsLaw" (86 : Nat) ({ cls := "HouseFunctionsModel", name := "cosine", desc := "(I)J" } : Jvm.MethodName)),
  (Jvm.Cond.methodLink "HouseFunctionsLaw" (90 : Nat) ({ cls := "HouseFunctionsModel", name := "angle", desc := "(II)J" } : Jvm.MethodName)),
  (Jvm.Cond.methodLink "HouseFunctionsLaw" (94 : Nat) ({ cls := "HouseFunctionsModel", name := "root", desc := "(JI)J" } : Jvm.MethodName)),
  (Jvm.Cond.methodLink "HouseFunctionsLaw" (97 : Nat) ({ cls := "HouseFunctionsModel", name := "damp", desc := "(II)J" } : Jvm.MethodName)),
  (Jvm.Cond.methodLink "HouseFunctionsLaw" (100 : Nat) ({ cls := "HouseFunctionsModel", name := "dew", desc := "(I)J" } : Jvm.MethodName)),
  (Jvm.Cond.methodLink "HouseFunctionsLaw" (104 : Nat) ({ cls := "HouseFunctionsModel", name := "table", desc := "()I" } : Jvm.MethodName)),
  (Jvm.Cond.methodLink "HouseFunctionsLaw" (108 : Nat) ({ cls := "HouseFunctionsModel", name := "row", desc := "(III)I" } : Jvm.MethodName)),
  (Jvm.Cond.methodLink "HouseFunctionsLaw" (111 : Nat) ({ cls := "HouseFunctionsModel", name := "at", desc := "(II)J" } : Jvm.MethodName)),
  (Jvm.Cond.methodLink "HouseFunctionsLaw" (119 : Nat) ({ cls := "HouseFunctionsModel", name := "join", desc := "(III)J" } : Jvm.MethodName)),
  (Jvm.Cond.methodLink "HouseFunctionsLaw" (116 : Nat) ({ cls := "HouseFunctionsModel", name := "drawn", desc := "(JI)I" } : Jvm.MethodName)),
  (Jvm.Cond.constantLong "HouseFunctionsLaw" (75 : Nat) (4294967295 : Int64)),
  (Jvm.Cond.arrayClass Jvm.ClassFile.FieldType.long)] ++ al_F
set_option maxRecDepth 20000 in
theorem ag_L : al_L.all goodWord = true := by decide +kernel
theorem sb_L_F : ∀ w ∈ al_F, w ∈ al_L := fun w h => List.mem_append_right _ h
theorem wm_L_1 : (Jvm.Cond.classLink "HouseFunctionsLaw" (8 : Nat) "HouseFunctions") ∈ al_L := List.mem_of_getElem? (i := 1) rfl
theorem wm_L_3 : (Jvm.Cond.methodLink "HouseFunctionsLaw" (112 : Nat) ({ cls := "HouseFunctions", name := "drawn", desc := "(JI)I" } : Jvm.MethodName)) ∈ al_L := List.mem_of_getElem? (i := 3) rfl
theorem wm_L_9 : (Jvm.Cond.classLink "HouseFunctionsLaw" (13 : Nat) "java/lang/IllegalArgumentException") ∈ al_L := List.mem_of_getElem? (i := 9) rfl
theorem wm_L_10 : (Jvm.Cond.methodLink "HouseFunctionsLaw" (7 : Nat) ({ cls := "HouseFunctions", name := "power", desc := "(I)J" } : Jvm.MethodName)) ∈ al_L := List.mem_of_getElem? (i := 10) rfl
theorem wm_L_13 : (Jvm.Cond.methodLink "HouseFunctionsLaw" (15 : Nat) ({ cls := "HouseFunctions", name := "logarithm", desc := "(J)J" } : Jvm.MethodName)) ∈ al_L := List.mem_of_getElem? (i := 13) rfl
theorem wm_L_16 : (Jvm.Cond.methodLink "HouseFunctionsLaw" (19 : Nat) ({ cls := "HouseFunctions", name := "sine", desc := "(I)J" } : Jvm.MethodName)) ∈ al_L := List.mem_of_getElem? (i := 16) rfl
theorem wm_L_19 : (Jvm.Cond.methodLink "HouseFunctionsLaw" (22 : Nat) ({ cls := "HouseFunctions", name := "cosine", desc := "(I)J" } : Jvm.MethodName)) ∈ al_L := List.mem_of_getElem? (i := 19) rfl
theorem wm_L_22 : (Jvm.Cond.methodLink "HouseFunctionsLaw" (25 : Nat) ({ cls := "HouseFunctions", name := "angle", desc := "(II)J" } : Jvm.MethodName)) ∈ al_L := List.mem_of_getElem? (i := 22) rfl
theorem wm_L_25 : (Jvm.Cond.methodLink "HouseFunctionsLaw" (29 : Nat) ({ cls := "HouseFunctions", name := "root", desc := "(JI)J" } : Jvm.MethodName)) ∈ al_L := List.mem_of_getElem? (i := 25) rfl
theorem wm_L_28 : (Jvm.Cond.methodLink "HouseFunctionsLaw" (33 : Nat) ({ cls := "HouseFunctions", name := "damp", desc := "(II)J" } : Jvm.MethodName)) ∈ al_L := List.mem_of_getElem? (i := 28) rfl
theorem wm_L_31 : (Jvm.Cond.methodLink "HouseFunctionsLaw" (36 : Nat) ({ cls := "HouseFunctions", name := "dew", desc := "(I)J" } : Jvm.MethodName)) ∈ al_L := List.mem_of_getElem? (i := 31) rfl
theorem wm_L_34 : (Jvm.Cond.classLink "HouseFunctionsLaw" (43 : Nat) "java/lang/IllegalStateException") ∈ al_L := List.mem_of_getElem? (i := 34) rfl
theorem wm_L_35 : (Jvm.Cond.methodLink "HouseFunctionsLaw" (39 : Nat) ({ cls := "HouseFunctions", name := "table", desc := "()I" } : Jvm.MethodName)) ∈ al_L := List.mem_of_getElem? (i := 35) rfl
theorem wm_L_38 : (Jvm.Cond.methodLink "HouseFunctionsLaw" (45 : Nat) ({ cls := "HouseFunctions", name := "row", desc := "(III)I" } : Jvm.MethodName)) ∈ al_L := List.mem_of_getElem? (i := 38) rfl
theorem wm_L_41 : (Jvm.Cond.methodLink "HouseFunctionsLaw" (49 : Nat) ({ cls := "HouseFunctions", name := "at", desc := "(II)J" } : Jvm.MethodName)) ∈ al_L := List.mem_of_getElem? (i := 41) rfl
theorem wm_L_44 : (Jvm.Cond.methodLink "HouseFunctionsLaw" (52 : Nat) ({ cls := "HouseFunctions", name := "join", desc := "(III)J" } : Jvm.MethodName)) ∈ al_L := List.mem_of_getElem? (i := 44) rfl
theorem wm_L_45 : (Jvm.Cond.classLink "HouseFunctionsLaw" (65 : Nat) "HouseFunctionsModel") ∈ al_L := List.mem_of_getElem? (i := 45) rfl
theorem wm_L_63 : (Jvm.Cond.initialized "HouseFunctions") ∈ al_L := List.mem_of_getElem? (i := 63) rfl
theorem wm_L_78 : (Jvm.Cond.instanceMethod ({ cls := "HouseFunctions", name := "drawn", desc := "(JI)I" } : Jvm.MethodName)) ∈ al_L := List.mem_of_getElem? (i := 78) rfl
theorem wm_L_79 : (Jvm.Cond.selects "HouseFunctions" ({ cls := "HouseFunctions", name := "drawn", desc := "(JI)I" } : Jvm.MethodName) ({ cls := "HouseFunctions", name := "drawn", desc := "(JI)I" } : Jvm.MethodName)) ∈ al_L := List.mem_of_getElem? (i := 79) rfl
theorem wm_L_80 : (Jvm.Cond.code ({ cls := "HouseFunctions", name := "drawn", desc := "(JI)I" } : Jvm.MethodName) prog_1_method_13_code (6 : Nat) (Option.some Jvm.ClassFile.FieldType.int)) ∈ al_L := List.mem_of_getElem? (i := 80) rfl
theorem wm_L_86 : (Jvm.Cond.instanceMethod ({ cls := "HouseFunctions", name := "power", desc := "(I)J" } : Jvm.MethodName)) ∈ al_L := List.mem_of_getElem? (i := 86) rfl
theorem wm_L_87 : (Jvm.Cond.selects "HouseFunctions" ({ cls := "HouseFunctions", name := "power", desc := "(I)J" } : Jvm.MethodName) ({ cls := "HouseFunctions", name := "power", desc := "(I)J" } : Jvm.MethodName)) ∈ al_L := List.mem_of_getElem? (i := 87) rfl
theorem wm_L_88 : (Jvm.Cond.code ({ cls := "HouseFunctions", name := "power", desc := "(I)J" } : Jvm.MethodName) prog_1_method_2_code (2 : Nat) (Option.some Jvm.ClassFile.FieldType.long)) ∈ al_L := List.mem_of_getElem? (i := 88) rfl
theorem wm_L_99 : (Jvm.Cond.instanceMethod ({ cls := "HouseFunctions", name := "logarithm", desc := "(J)J" } : Jvm.MethodName)) ∈ al_L := List.mem_of_getElem? (i := 99) rfl
theorem wm_L_100 : (Jvm.Cond.selects "HouseFunctions" ({ cls := "HouseFunctions", name := "logarithm", desc := "(J)J" } : Jvm.MethodName) ({ cls := "HouseFunctions", name := "logarithm", desc := "(J)J" } : Jvm.MethodName)) ∈ al_L := List.mem_of_getElem? (i := 100) rfl
theorem wm_L_101 : (Jvm.Cond.code ({ cls := "HouseFunctions", name := "logarithm", desc := "(J)J" } : Jvm.MethodName) prog_1_method_3_code (3 : Nat) (Option.some Jvm.ClassFile.FieldType.long)) ∈ al_L := List.mem_of_getElem? (i := 101) rfl
theorem wm_L_105 : (Jvm.Cond.instanceMethod ({ cls := "HouseFunctions", name := "sine", desc := "(I)J" } : Jvm.MethodName)) ∈ al_L := List.mem_of_getElem? (i := 105) rfl
theorem wm_L_106 : (Jvm.Cond.selects "HouseFunctions" ({ cls := "HouseFunctions", name := "sine", desc := "(I)J" } : Jvm.MethodName) ({ cls := "HouseFunctions", name := "sine", desc := "(I)J" } : Jvm.MethodName)) ∈ al_L := List.mem_of_getElem? (i := 106) rfl
theorem wm_L_107 : (Jvm.Cond.code ({ cls := "HouseFunctions", name := "sine", desc := "(I)J" } : Jvm.MethodName) prog_1_method_4_code (2 : Nat) (Option.some Jvm.ClassFile.FieldType.long)) ∈ al_L := List.mem_of_getElem? (i := 107) rfl
theorem wm_L_112 : (Jvm.Cond.instanceMethod ({ cls := "HouseFunctions", name := "cosine", desc := "(I)J" } : Jvm.MethodName)) ∈ al_L := List.mem_of_getElem? (i := 112) rfl
theorem wm_L_113 : (Jvm.Cond.selects "HouseFunctions" ({ cls := "HouseFunctions", name := "cosine", desc := "(I)J" } : Jvm.MethodName) ({ cls := "HouseFunctions", name := "cosine", desc := "(I)J" } : Jvm.MethodName)) ∈ al_L := List.mem_of_getElem? (i := 113) rfl
theorem wm_L_114 : (Jvm.Cond.code ({ cls := "HouseFunctions", name := "cosine", desc := "(I)J" } : Jvm.MethodName) prog_1_method_5_code (2 : Nat) (Option.some Jvm.ClassFile.FieldType.long)) ∈ al_L := List.mem_of_getElem? (i := 114) rfl
theorem wm_L_115 : (Jvm.Cond.instanceMethod ({ cls := "HouseFunctions", name := "angle", desc := "(II)J" } : Jvm.MethodName)) ∈ al_L := List.mem_of_getElem? (i := 115) rfl
theorem wm_L_116 : (Jvm.Cond.selects "HouseFunctions" ({ cls := "HouseFunctions", name := "angle", desc := "(II)J" } : Jvm.MethodName) ({ cls := "HouseFunctions", name := "angle", desc := "(II)J" } : Jvm.MethodName)) ∈ al_L := List.mem_of_getElem? (i := 116) rfl
theorem wm_L_117 : (Jvm.Cond.code ({ cls := "HouseFunctions", name := "angle", desc := "(II)J" } : Jvm.MethodName) prog_1_method_6_code (3 : Nat) (Option.some Jvm.ClassFile.FieldType.long)) ∈ al_L := List.mem_of_getElem? (i := 117) rfl
theorem wm_L_120 : (Jvm.Cond.instanceMethod ({ cls := "HouseFunctions", name := "root", desc := "(JI)J" } : Jvm.MethodName)) ∈ al_L := List.mem_of_getElem? (i := 120) rfl
theorem wm_L_121 : (Jvm.Cond.selects "HouseFunctions" ({ cls := "HouseFunctions", name := "root", desc := "(JI)J" } : Jvm.MethodName) ({ cls := "HouseFunctions", name := "root", desc := "(JI)J" } : Jvm.MethodName)) ∈ al_L := List.mem_of_getElem? (i := 121) rfl
theorem wm_L_122 : (Jvm.Cond.code ({ cls := "HouseFunctions", name := "root", desc := "(JI)J" } : Jvm.MethodName) prog_1_method_7_code (4 : Nat) (Option.some Jvm.ClassFile.FieldType.long)) ∈ al_L := List.mem_of_getElem? (i := 122) rfl
theorem wm_L_126 : (Jvm.Cond.instanceMethod ({ cls := "HouseFunctions", name := "damp", desc := "(II)J" } : Jvm.MethodName)) ∈ al_L := List.mem_of_getElem? (i := 126) rfl
theorem wm_L_127 : (Jvm.Cond.selects "HouseFunctions" ({ cls := "HouseFunctions", name := "damp", desc := "(II)J" } : Jvm.MethodName) ({ cls := "HouseFunctions", name := "damp", desc := "(II)J" } : Jvm.MethodName)) ∈ al_L := List.mem_of_getElem? (i := 127) rfl
theorem wm_L_128 : (Jvm.Cond.code ({ cls := "HouseFunctions", name := "damp", desc := "(II)J" } : Jvm.MethodName) prog_1_method_8_code (3 : Nat) (Option.some Jvm.ClassFile.FieldType.long)) ∈ al_L := List.mem_of_getElem? (i := 128) rfl
theorem wm_L_136 : (Jvm.Cond.instanceMethod ({ cls := "HouseFunctions", name := "dew", desc := "(I)J" } : Jvm.MethodName)) ∈ al_L := List.mem_of_getElem? (i := 136) rfl
theorem wm_L_137 : (Jvm.Cond.selects "HouseFunctions" ({ cls := "HouseFunctions", name := "dew", desc := "(I)J" } : Jvm.MethodName) ({ cls := "HouseFunctions", name := "dew", desc := "(I)J" } : Jvm.MethodName)) ∈ al_L := List.mem_of_getElem? (i := 137) rfl
theorem wm_L_138 : (Jvm.Cond.code ({ cls := "HouseFunctions", name := "dew", desc := "(I)J" } : Jvm.MethodName) prog_1_method_9_code (6 : Nat) (Option.some Jvm.ClassFile.FieldType.long)) ∈ al_L := List.mem_of_getElem? (i := 138) rfl
theorem wm_L_146 : (Jvm.Cond.instanceMethod ({ cls := "HouseFunctions", name := "table", desc := "()I" } : Jvm.MethodName)) ∈ al_L := List.mem_of_getElem? (i := 146) rfl
theorem wm_L_147 : (Jvm.Cond.selects "HouseFunctions" ({ cls := "HouseFunctions", name := "table", desc := "()I" } : Jvm.MethodName) ({ cls := "HouseFunctions", name := "table", desc := "()I" } : Jvm.MethodName)) ∈ al_L := List.mem_of_getElem? (i := 147) rfl
theorem wm_L_148 : (Jvm.Cond.code ({ cls := "HouseFunctions", name := "table", desc := "()I" } : Jvm.MethodName) prog_1_method_10_code (1 : Nat) (Option.some Jvm.ClassFile.FieldType.int)) ∈ al_L := List.mem_of_getElem? (i := 148) rfl
theorem wm_L_151 : (Jvm.Cond.instanceMethod ({ cls := "HouseFunctions", name := "row", desc := "(III)I" } : Jvm.MethodName)) ∈ al_L := List.mem_of_getElem? (i := 151) rfl
theorem wm_L_152 : (Jvm.Cond.selects "HouseFunctions" ({ cls := "HouseFunctions", name := "row", desc := "(III)I" } : Jvm.MethodName) ({ cls := "HouseFunctions", name := "row", desc := "(III)I" } : Jvm.MethodName)) ∈ al_L := List.mem_of_getElem? (i := 152) rfl
theorem wm_L_153 : (Jvm.Cond.code ({ cls := "HouseFunctions", name := "row", desc := "(III)I" } : Jvm.MethodName) prog_1_method_11_code (5 : Nat) (Option.some Jvm.ClassFile.FieldType.int)) ∈ al_L := List.mem_of_getElem? (i := 153) rfl
theorem wm_L_160 : (Jvm.Cond.instanceMethod ({ cls := "HouseFunctions", name := "at", desc := "(II)J" } : Jvm.MethodName)) ∈ al_L := List.mem_of_getElem? (i := 160) rfl
theorem wm_L_161 : (Jvm.Cond.selects "HouseFunctions" ({ cls := "HouseFunctions", name := "at", desc := "(II)J" } : Jvm.MethodName) ({ cls := "HouseFunctions", name := "at", desc := "(II)J" } : Jvm.MethodName)) ∈ al_L := List.mem_of_getElem? (i := 161) rfl
theorem wm_L_162 : (Jvm.Cond.code ({ cls := "HouseFunctions", name := "at", desc := "(II)J" } : Jvm.MethodName) prog_1_method_12_code (3 : Nat) (Option.some Jvm.ClassFile.FieldType.long)) ∈ al_L := List.mem_of_getElem? (i := 162) rfl
theorem wm_L_164 : (Jvm.Cond.instanceMethod ({ cls := "HouseFunctions", name := "join", desc := "(III)J" } : Jvm.MethodName)) ∈ al_L := List.mem_of_getElem? (i := 164) rfl
theorem wm_L_165 : (Jvm.Cond.selects "HouseFunctions" ({ cls := "HouseFunctions", name := "join", desc := "(III)J" } : Jvm.MethodName) ({ cls := "HouseFunctions", name := "join", desc := "(III)J" } : Jvm.MethodName)) ∈ al_L := List.mem_of_getElem? (i := 165) rfl
theorem wm_L_166 : (Jvm.Cond.code ({ cls := "HouseFunctions", name := "join", desc := "(III)J" } : Jvm.MethodName) prog_1_method_14_code (10 : Nat) (Option.some Jvm.ClassFile.FieldType.long)) ∈ al_L := List.mem_of_getElem? (i := 166) rfl
abbrev b_L_cell : ByteArray := method_2_code
def y_L_cell : MethodName := ⟨R_L, "cell", "([II)I"⟩
def w_L_cell : List Cond := .code y_L_cell b_L_cell 2 (some .int) :: al_L
abbrev b_L_power : ByteArray := method_3_code
def y_L_power : MethodName := ⟨R_L, "power", "(LHouseFunctions;I[J)I"⟩
def w_L_power : List Cond := .codeWith y_L_power b_L_power 4 (some .int) [(0, 8, 11, 13)] :: al_L
abbrev b_L_logarithm : ByteArray := method_4_code
def y_L_logarithm : MethodName := ⟨R_L, "logarithm", "(LHouseFunctions;J[J)I"⟩
def w_L_logarithm : List Cond := .codeWith y_L_logarithm b_L_logarithm 5 (some .int) [(0, 8, 11, 13)] :: al_L
abbrev b_L_sine : ByteArray := method_5_code
def y_L_sine : MethodName := ⟨R_L, "sine", "(LHouseFunctions;I[J)I"⟩
def w_L_sine : List Cond := .codeWith y_L_sine b_L_sine 4 (some .int) [(0, 8, 11, 13)] :: al_L
abbrev b_L_cosine : ByteArray := method_6_code
def y_L_cosine : MethodName := ⟨R_L, "cosine", "(LHouseFunctions;I[J)I"⟩
def w_L_cosine : List Cond := .codeWith y_L_cosine b_L_cosine 4 (some .int) [(0, 8, 11, 13)] :: al_L
abbrev b_L_angle : ByteArray := method_7_code
def y_L_angle : MethodName := ⟨R_L, "angle", "(LHouseFunctions;II[J)I"⟩
def w_L_angle : List Cond := .codeWith y_L_angle b_L_angle 5 (some .int) [(0, 9, 12, 13)] :: al_L
abbrev b_L_root : ByteArray := method_8_code
def y_L_root : MethodName := ⟨R_L, "root", "(LHouseFunctions;JI[J)I"⟩
def w_L_root : List Cond := .codeWith y_L_root b_L_root 6 (some .int) [(0, 10, 13, 13)] :: al_L
abbrev b_L_damp : ByteArray := method_9_code
def y_L_damp : MethodName := ⟨R_L, "damp", "(LHouseFunctions;II[J)I"⟩
def w_L_damp : List Cond := .codeWith y_L_damp b_L_damp 5 (some .int) [(0, 9, 12, 13)] :: al_L
abbrev b_L_dew : ByteArray := method_10_code
def y_L_dew : MethodName := ⟨R_L, "dew", "(LHouseFunctions;I[J)I"⟩
def w_L_dew : List Cond := .codeWith y_L_dew b_L_dew 4 (some .int) [(0, 8, 11, 13)] :: al_L
abbrev b_L_table : ByteArray := method_11_code
def y_L_table : MethodName := ⟨R_L, "table", "(LHouseFunctions;[J)I"⟩
def w_L_table : List Cond := .codeWith y_L_table b_L_table 3 (some .int) [(0, 8, 11, 43)] :: al_L
abbrev b_L_row : ByteArray := method_12_code
def y_L_row : MethodName := ⟨R_L, "row", "(LHouseFunctions;III[J)I"⟩
def w_L_row : List Cond := .codeWith y_L_row b_L_row 6 (some .int) [(0, 12, 15, 13), (0, 12, 19, 43)] :: al_L
abbrev b_L_at : ByteArray := method_13_code
def y_L_at : MethodName := ⟨R_L, "at", "(LHouseFunctions;II[J)I"⟩
def w_L_at : List Cond := .codeWith y_L_at b_L_at 5 (some .int) [(0, 9, 12, 13)] :: al_L
abbrev b_L_join : ByteArray := method_14_code
def y_L_join : MethodName := ⟨R_L, "join", "(LHouseFunctions;III[J)I"⟩
def w_L_join : List Cond := .codeWith y_L_join b_L_join 6 (some .int) [(0, 11, 14, 13)] :: al_L
theorem g_L_F_drawn : GoodIn al_L (wsV R_L 112 R_F y_F_drawn w_F_drawn) := gi_of ag_L (List.forall_mem_cons.mpr ⟨wm_L_3, List.forall_mem_cons.mpr ⟨wm_L_78, List.forall_mem_cons.mpr ⟨wm_L_79, List.forall_mem_cons.mpr ⟨wm_L_63, List.forall_mem_cons.mpr ⟨wm_L_80, sb_L_F⟩⟩⟩⟩⟩)
theorem g_L_F_power : GoodIn al_L (wsV R_L 7 R_F y_F_power w_F_power) := gi_of ag_L (List.forall_mem_cons.mpr ⟨wm_L_10, List.forall_mem_cons.mpr ⟨wm_L_86, List.forall_mem_cons.mpr ⟨wm_L_87, List.forall_mem_cons.mpr ⟨wm_L_63, List.forall_mem_cons.mpr ⟨wm_L_88, sb_L_F⟩⟩⟩⟩⟩)
theorem g_L_F_logarithm : GoodIn al_L (wsV R_L 15 R_F y_F_logarithm w_F_logarithm) := gi_of ag_L (List.forall_mem_cons.mpr ⟨wm_L_13, List.forall_mem_cons.mpr ⟨wm_L_99, List.forall_mem_cons.mpr ⟨wm_L_100, List.forall_mem_cons.mpr ⟨wm_L_63, List.forall_mem_cons.mpr ⟨wm_L_101, sb_L_F⟩⟩⟩⟩⟩)
theorem g_L_F_sine : GoodIn al_L (wsV R_L 19 R_F y_F_sine w_F_sine) := gi_of ag_L (List.forall_mem_cons.mpr ⟨wm_L_16, List.forall_mem_cons.mpr ⟨wm_L_105, List.forall_mem_cons.mpr ⟨wm_L_106, List.forall_mem_cons.mpr ⟨wm_L_63, List.forall_mem_cons.mpr ⟨wm_L_107, sb_L_F⟩⟩⟩⟩⟩)
theorem g_L_F_cosine : GoodIn al_L (wsV R_L 22 R_F y_F_cosine w_F_cosine) := gi_of ag_L (List.forall_mem_cons.mpr ⟨wm_L_19, List.forall_mem_cons.mpr ⟨wm_L_112, List.forall_mem_cons.mpr ⟨wm_L_113, List.forall_mem_cons.mpr ⟨wm_L_63, List.forall_mem_cons.mpr ⟨wm_L_114, sb_L_F⟩⟩⟩⟩⟩)
theorem g_L_F_angle : GoodIn al_L (wsV R_L 25 R_F y_F_angle w_F_angle) := gi_of ag_L (List.forall_mem_cons.mpr ⟨wm_L_22, List.forall_mem_cons.mpr ⟨wm_L_115, List.forall_mem_cons.mpr ⟨wm_L_116, List.forall_mem_cons.mpr ⟨wm_L_63, List.forall_mem_cons.mpr ⟨wm_L_117, sb_L_F⟩⟩⟩⟩⟩)
theorem g_L_F_root : GoodIn al_L (wsV R_L 29 R_F y_F_root w_F_root) := gi_of ag_L (List.forall_mem_cons.mpr ⟨wm_L_25, List.forall_mem_cons.mpr ⟨wm_L_120, List.forall_mem_cons.mpr ⟨wm_L_121, List.forall_mem_cons.mpr ⟨wm_L_63, List.forall_mem_cons.mpr ⟨wm_L_122, sb_L_F⟩⟩⟩⟩⟩)
theorem g_L_F_damp : GoodIn al_L (wsV R_L 33 R_F y_F_damp w_F_damp) := gi_of ag_L (List.forall_mem_cons.mpr ⟨wm_L_28, List.forall_mem_cons.mpr ⟨wm_L_126, List.forall_mem_cons.mpr ⟨wm_L_127, List.forall_mem_cons.mpr ⟨wm_L_63, List.forall_mem_cons.mpr ⟨wm_L_128, sb_L_F⟩⟩⟩⟩⟩)
theorem g_L_F_dew : GoodIn al_L (wsV R_L 36 R_F y_F_dew w_F_dew) := gi_of ag_L (List.forall_mem_cons.mpr ⟨wm_L_31, List.forall_mem_cons.mpr ⟨wm_L_136, List.forall_mem_cons.mpr ⟨wm_L_137, List.forall_mem_cons.mpr ⟨wm_L_63, List.forall_mem_cons.mpr ⟨wm_L_138, sb_L_F⟩⟩⟩⟩⟩)
theorem g_L_F_table : GoodIn al_L (wsV R_L 39 R_F y_F_table w_F_table) := gi_of ag_L (List.forall_mem_cons.mpr ⟨wm_L_35, List.forall_mem_cons.mpr ⟨wm_L_146, List.forall_mem_cons.mpr ⟨wm_L_147, List.forall_mem_cons.mpr ⟨wm_L_63, List.forall_mem_cons.mpr ⟨wm_L_148, sb_L_F⟩⟩⟩⟩⟩)
theorem g_L_F_row : GoodIn al_L (wsV R_L 45 R_F y_F_row w_F_row) := gi_of ag_L (List.forall_mem_cons.mpr ⟨wm_L_38, List.forall_mem_cons.mpr ⟨wm_L_151, List.forall_mem_cons.mpr ⟨wm_L_152, List.forall_mem_cons.mpr ⟨wm_L_63, List.forall_mem_cons.mpr ⟨wm_L_153, sb_L_F⟩⟩⟩⟩⟩)
theorem g_L_F_at : GoodIn al_L (wsV R_L 49 R_F y_F_at w_F_at) := gi_of ag_L (List.forall_mem_cons.mpr ⟨wm_L_41, List.forall_mem_cons.mpr ⟨wm_L_160, List.forall_mem_cons.mpr ⟨wm_L_161, List.forall_mem_cons.mpr ⟨wm_L_63, List.forall_mem_cons.mpr ⟨wm_L_162, sb_L_F⟩⟩⟩⟩⟩)
theorem g_L_F_join : GoodIn al_L (wsV R_L 52 R_F y_F_join w_F_join) := gi_of ag_L (List.forall_mem_cons.mpr ⟨wm_L_44, List.forall_mem_cons.mpr ⟨wm_L_164, List.forall_mem_cons.mpr ⟨wm_L_165, List.forall_mem_cons.mpr ⟨wm_L_63, List.forall_mem_cons.mpr ⟨wm_L_166, sb_L_F⟩⟩⟩⟩⟩)
theorem d_L_cell_0 : decode b_L_cell 0 = .ok (.iload_n 1, 1) := by decide +kernel
theorem d_L_cell_1 : decode b_L_cell 1 = .ok (.aload_n 0, 1) := by decide +kernel
theorem d_L_cell_2 : decode b_L_cell 2 = .ok (.arraylength, 1) := by decide +kernel
theorem d_L_cell_3 : decode b_L_cell 3 = .ok (.if_icmp .ge 9, 3) := by decide +kernel
theorem d_L_cell_6 : decode b_L_cell 6 = .ok (.aload_n 0, 1) := by decide +kernel
theorem d_L_cell_7 : decode b_L_cell 7 = .ok (.iload_n 1, 1) := by decide +kernel
theorem d_L_cell_8 : decode b_L_cell 8 = .ok (.iaload, 1) := by decide +kernel
theorem d_L_cell_9 : decode b_L_cell 9 = .ok (.goto 4, 3) := by decide +kernel
theorem d_L_cell_12 : decode b_L_cell 12 = .ok (.iconst 0, 1) := by decide +kernel
theorem d_L_cell_13 : decode b_L_cell 13 = .ok (.ireturn, 1) := by decide +kernel
theorem d_L_power_0 : decode b_L_power 0 = .ok (.aload_n 2, 1) := by decide +kernel
theorem d_L_power_1 : decode b_L_power 1 = .ok (.iconst 0, 1) := by decide +kernel
theorem d_L_power_2 : decode b_L_power 2 = .ok (.aload_n 0, 1) := by decide +kernel
theorem d_L_power_3 : decode b_L_power 3 = .ok (.iload_n 1, 1) := by decide +kernel
theorem d_L_power_4 : decode b_L_power 4 = .ok (.invokevirtual 7, 3) := by decide +kernel
theorem d_L_power_7 : decode b_L_power 7 = .ok (.lastore, 1) := by decide +kernel
theorem d_L_power_8 : decode b_L_power 8 = .ok (.goto 6, 3) := by decide +kernel
theorem d_L_power_11 : decode b_L_power 11 = .ok (.astore_n 3, 1) := by decide +kernel
theorem d_L_power_12 : decode b_L_power 12 = .ok (.iconst 1, 1) := by decide +kernel
theorem d_L_power_13 : decode b_L_power 13 = .ok (.ireturn, 1) := by decide +kernel
theorem d_L_power_14 : decode b_L_power 14 = .ok (.iconst 0, 1) := by decide +kernel
theorem d_L_power_15 : decode b_L_power 15 = .ok (.ireturn, 1) := by decide +kernel
theorem d_L_logarithm_0 : decode b_L_logarithm 0 = .ok (.aload_n 3, 1) := by decide +kernel
theorem d_L_logarithm_1 : decode b_L_logarithm 1 = .ok (.iconst 0, 1) := by decide +kernel
theorem d_L_logarithm_2 : decode b_L_logarithm 2 = .ok (.aload_n 0, 1) := by decide +kernel
theorem d_L_logarithm_3 : decode b_L_logarithm 3 = .ok (.lload_n 1, 1) := by decide +kernel
theorem d_L_logarithm_4 : decode b_L_logarithm 4 = .ok (.invokevirtual 15, 3) := by decide +kernel
theorem d_L_logarithm_7 : decode b_L_logarithm 7 = .ok (.lastore, 1) := by decide +kernel
theorem d_L_logarithm_8 : decode b_L_logarithm 8 = .ok (.goto 7, 3) := by decide +kernel
theorem d_L_logarithm_11 : decode b_L_logarithm 11 = .ok (.astore 4, 2) := by decide +kernel
theorem d_L_logarithm_13 : decode b_L_logarithm 13 = .ok (.iconst 1, 1) := by decide +kernel
theorem d_L_logarithm_14 : decode b_L_logarithm 14 = .ok (.ireturn, 1) := by decide +kernel
theorem d_L_logarithm_15 : decode b_L_logarithm 15 = .ok (.iconst 0, 1) := by decide +kernel
theorem d_L_logarithm_16 : decode b_L_logarithm 16 = .ok (.ireturn, 1) := by decide +kernel
theorem d_L_sine_0 : decode b_L_sine 0 = .ok (.aload_n 2, 1) := by decide +kernel
theorem d_L_sine_1 : decode b_L_sine 1 = .ok (.iconst 0, 1) := by decide +kernel
theorem d_L_sine_2 : decode b_L_sine 2 = .ok (.aload_n 0, 1) := by decide +kernel
theorem d_L_sine_3 : decode b_L_sine 3 = .ok (.iload_n 1, 1) := by decide +kernel
theorem d_L_sine_4 : decode b_L_sine 4 = .ok (.invokevirtual 19, 3) := by decide +kernel
theorem d_L_sine_7 : decode b_L_sine 7 = .ok (.lastore, 1) := by decide +kernel
theorem d_L_sine_8 : decode b_L_sine 8 = .ok (.goto 6, 3) := by decide +kernel
theorem d_L_sine_11 : decode b_L_sine 11 = .ok (.astore_n 3, 1) := by decide +kernel
theorem d_L_sine_12 : decode b_L_sine 12 = .ok (.iconst 1, 1) := by decide +kernel
theorem d_L_sine_13 : decode b_L_sine 13 = .ok (.ireturn, 1) := by decide +kernel
theorem d_L_sine_14 : decode b_L_sine 14 = .ok (.iconst 0, 1) := by decide +kernel
theorem d_L_sine_15 : decode b_L_sine 15 = .ok (.ireturn, 1) := by decide +kernel
theorem d_L_cosine_0 : decode b_L_cosine 0 = .ok (.aload_n 2, 1) := by decide +kernel
theorem d_L_cosine_1 : decode b_L_cosine 1 = .ok (.iconst 0, 1) := by decide +kernel
theorem d_L_cosine_2 : decode b_L_cosine 2 = .ok (.aload_n 0, 1) := by decide +kernel
theorem d_L_cosine_3 : decode b_L_cosine 3 = .ok (.iload_n 1, 1) := by decide +kernel
theorem d_L_cosine_4 : decode b_L_cosine 4 = .ok (.invokevirtual 22, 3) := by decide +kernel
theorem d_L_cosine_7 : decode b_L_cosine 7 = .ok (.lastore, 1) := by decide +kernel
theorem d_L_cosine_8 : decode b_L_cosine 8 = .ok (.goto 6, 3) := by decide +kernel
theorem d_L_cosine_11 : decode b_L_cosine 11 = .ok (.astore_n 3, 1) := by decide +kernel
theorem d_L_cosine_12 : decode b_L_cosine 12 = .ok (.iconst 1, 1) := by decide +kernel
theorem d_L_cosine_13 : decode b_L_cosine 13 = .ok (.ireturn, 1) := by decide +kernel
theorem d_L_cosine_14 : decode b_L_cosine 14 = .ok (.iconst 0, 1) := by decide +kernel
theorem d_L_cosine_15 : decode b_L_cosine 15 = .ok (.ireturn, 1) := by decide +kernel
theorem d_L_angle_0 : decode b_L_angle 0 = .ok (.aload_n 3, 1) := by decide +kernel
theorem d_L_angle_1 : decode b_L_angle 1 = .ok (.iconst 0, 1) := by decide +kernel
theorem d_L_angle_2 : decode b_L_angle 2 = .ok (.aload_n 0, 1) := by decide +kernel
theorem d_L_angle_3 : decode b_L_angle 3 = .ok (.iload_n 1, 1) := by decide +kernel
theorem d_L_angle_4 : decode b_L_angle 4 = .ok (.iload_n 2, 1) := by decide +kernel
theorem d_L_angle_5 : decode b_L_angle 5 = .ok (.invokevirtual 25, 3) := by decide +kernel
theorem d_L_angle_8 : decode b_L_angle 8 = .ok (.lastore, 1) := by decide +kernel
theorem d_L_angle_9 : decode b_L_angle 9 = .ok (.goto 7, 3) := by decide +kernel
theorem d_L_angle_12 : decode b_L_angle 12 = .ok (.astore 4, 2) := by decide +kernel
theorem d_L_angle_14 : decode b_L_angle 14 = .ok (.iconst 1, 1) := by decide +kernel
theorem d_L_angle_15 : decode b_L_angle 15 = .ok (.ireturn, 1) := by decide +kernel
theorem d_L_angle_16 : decode b_L_angle 16 = .ok (.iconst 0, 1) := by decide +kernel
theorem d_L_angle_17 : decode b_L_angle 17 = .ok (.ireturn, 1) := by decide +kernel
theorem d_L_root_0 : decode b_L_root 0 = .ok (.aload 4, 2) := by decide +kernel
theorem d_L_root_2 : decode b_L_root 2 = .ok (.iconst 0, 1) := by decide +kernel
theorem d_L_root_3 : decode b_L_root 3 = .ok (.aload_n 0, 1) := by decide +kernel
theorem d_L_root_4 : decode b_L_root 4 = .ok (.lload_n 1, 1) := by decide +kernel
theorem d_L_root_5 : decode b_L_root 5 = .ok (.iload_n 3, 1) := by decide +kernel
theorem d_L_root_6 : decode b_L_root 6 = .ok (.invokevirtual 29, 3) := by decide +kernel
theorem d_L_root_9 : decode b_L_root 9 = .ok (.lastore, 1) := by decide +kernel
theorem d_L_root_10 : decode b_L_root 10 = .ok (.goto 7, 3) := by decide +kernel
theorem d_L_root_13 : decode b_L_root 13 = .ok (.astore 5, 2) := by decide +kernel
theorem d_L_root_15 : decode b_L_root 15 = .ok (.iconst 1, 1) := by decide +kernel
theorem d_L_root_16 : decode b_L_root 16 = .ok (.ireturn, 1) := by decide +kernel
theorem d_L_root_17 : decode b_L_root 17 = .ok (.iconst 0, 1) := by decide +kernel
theorem d_L_root_18 : decode b_L_root 18 = .ok (.ireturn, 1) := by decide +kernel
theorem d_L_damp_0 : decode b_L_damp 0 = .ok (.aload_n 3, 1) := by decide +kernel
theorem d_L_damp_1 : decode b_L_damp 1 = .ok (.iconst 0, 1) := by decide +kernel
theorem d_L_damp_2 : decode b_L_damp 2 = .ok (.aload_n 0, 1) := by decide +kernel
theorem d_L_damp_3 : decode b_L_damp 3 = .ok (.iload_n 1, 1) := by decide +kernel
theorem d_L_damp_4 : decode b_L_damp 4 = .ok (.iload_n 2, 1) := by decide +kernel
theorem d_L_damp_5 : decode b_L_damp 5 = .ok (.invokevirtual 33, 3) := by decide +kernel
theorem d_L_damp_8 : decode b_L_damp 8 = .ok (.lastore, 1) := by decide +kernel
theorem d_L_damp_9 : decode b_L_damp 9 = .ok (.goto 7, 3) := by decide +kernel
theorem d_L_damp_12 : decode b_L_damp 12 = .ok (.astore 4, 2) := by decide +kernel
theorem d_L_damp_14 : decode b_L_damp 14 = .ok (.iconst 1, 1) := by decide +kernel
theorem d_L_damp_15 : decode b_L_damp 15 = .ok (.ireturn, 1) := by decide +kernel
theorem d_L_damp_16 : decode b_L_damp 16 = .ok (.iconst 0, 1) := by decide +kernel
theorem d_L_damp_17 : decode b_L_damp 17 = .ok (.ireturn, 1) := by decide +kernel
theorem d_L_dew_0 : decode b_L_dew 0 = .ok (.aload_n 2, 1) := by decide +kernel
theorem d_L_dew_1 : decode b_L_dew 1 = .ok (.iconst 0, 1) := by decide +kernel
theorem d_L_dew_2 : decode b_L_dew 2 = .ok (.aload_n 0, 1) := by decide +kernel
theorem d_L_dew_3 : decode b_L_dew 3 = .ok (.iload_n 1, 1) := by decide +kernel
theorem d_L_dew_4 : decode b_L_dew 4 = .ok (.invokevirtual 36, 3) := by decide +kernel
theorem d_L_dew_7 : decode b_L_dew 7 = .ok (.lastore, 1) := by decide +kernel
theorem d_L_dew_8 : decode b_L_dew 8 = .ok (.goto 6, 3) := by decide +kernel
theorem d_L_dew_11 : decode b_L_dew 11 = .ok (.astore_n 3, 1) := by decide +kernel
theorem d_L_dew_12 : decode b_L_dew 12 = .ok (.iconst 1, 1) := by decide +kernel
theorem d_L_dew_13 : decode b_L_dew 13 = .ok (.ireturn, 1) := by decide +kernel
theorem d_L_dew_14 : decode b_L_dew 14 = .ok (.iconst 0, 1) := by decide +kernel
theorem d_L_dew_15 : decode b_L_dew 15 = .ok (.ireturn, 1) := by decide +kernel
theorem d_L_table_0 : decode b_L_table 0 = .ok (.aload_n 1, 1) := by decide +kernel
theorem d_L_table_1 : decode b_L_table 1 = .ok (.iconst 0, 1) := by decide +kernel
theorem d_L_table_2 : decode b_L_table 2 = .ok (.aload_n 0, 1) := by decide +kernel
theorem d_L_table_3 : decode b_L_table 3 = .ok (.invokevirtual 39, 3) := by decide +kernel
theorem d_L_table_6 : decode b_L_table 6 = .ok (.i2l, 1) := by decide +kernel
theorem d_L_table_7 : decode b_L_table 7 = .ok (.lastore, 1) := by decide +kernel
theorem d_L_table_8 : decode b_L_table 8 = .ok (.goto 6, 3) := by decide +kernel
theorem d_L_table_11 : decode b_L_table 11 = .ok (.astore_n 2, 1) := by decide +kernel
theorem d_L_table_12 : decode b_L_table 12 = .ok (.iconst 1, 1) := by decide +kernel
theorem d_L_table_13 : decode b_L_table 13 = .ok (.ireturn, 1) := by decide +kernel
theorem d_L_table_14 : decode b_L_table 14 = .ok (.iconst 0, 1) := by decide +kernel
theorem d_L_table_15 : decode b_L_table 15 = .ok (.ireturn, 1) := by decide +kernel
theorem d_L_row_0 : decode b_L_row 0 = .ok (.aload 4, 2) := by decide +kernel
theorem d_L_row_2 : decode b_L_row 2 = .ok (.iconst 0, 1) := by decide +kernel
theorem d_L_row_3 : decode b_L_row 3 = .ok (.aload_n 0, 1) := by decide +kernel
theorem d_L_row_4 : decode b_L_row 4 = .ok (.iload_n 1, 1) := by decide +kernel
theorem d_L_row_5 : decode b_L_row 5 = .ok (.iload_n 2, 1) := by decide +kernel
theorem d_L_row_6 : decode b_L_row 6 = .ok (.iload_n 3, 1) := by decide +kernel
theorem d_L_row_7 : decode b_L_row 7 = .ok (.invokevirtual 45, 3) := by decide +kernel
theorem d_L_row_10 : decode b_L_row 10 = .ok (.i2l, 1) := by decide +kernel
theorem d_L_row_11 : decode b_L_row 11 = .ok (.lastore, 1) := by decide +kernel
theorem d_L_row_12 : decode b_L_row 12 = .ok (.goto 11, 3) := by decide +kernel
theorem d_L_row_15 : decode b_L_row 15 = .ok (.astore 5, 2) := by decide +kernel
theorem d_L_row_17 : decode b_L_row 17 = .ok (.iconst 1, 1) := by decide +kernel
theorem d_L_row_18 : decode b_L_row 18 = .ok (.ireturn, 1) := by decide +kernel
theorem d_L_row_19 : decode b_L_row 19 = .ok (.astore 5, 2) := by decide +kernel
theorem d_L_row_21 : decode b_L_row 21 = .ok (.iconst 2, 1) := by decide +kernel
theorem d_L_row_22 : decode b_L_row 22 = .ok (.ireturn, 1) := by decide +kernel
theorem d_L_row_23 : decode b_L_row 23 = .ok (.iconst 0, 1) := by decide +kernel
theorem d_L_row_24 : decode b_L_row 24 = .ok (.ireturn, 1) := by decide +kernel
theorem d_L_at_0 : decode b_L_at 0 = .ok (.aload_n 3, 1) := by decide +kernel
theorem d_L_at_1 : decode b_L_at 1 = .ok (.iconst 0, 1) := by decide +kernel
theorem d_L_at_2 : decode b_L_at 2 = .ok (.aload_n 0, 1) := by decide +kernel
theorem d_L_at_3 : decode b_L_at 3 = .ok (.iload_n 1, 1) := by decide +kernel
theorem d_L_at_4 : decode b_L_at 4 = .ok (.iload_n 2, 1) := by decide +kernel
theorem d_L_at_5 : decode b_L_at 5 = .ok (.invokevirtual 49, 3) := by decide +kernel
theorem d_L_at_8 : decode b_L_at 8 = .ok (.lastore, 1) := by decide +kernel
theorem d_L_at_9 : decode b_L_at 9 = .ok (.goto 7, 3) := by decide +kernel
theorem d_L_at_12 : decode b_L_at 12 = .ok (.astore 4, 2) := by decide +kernel
theorem d_L_at_14 : decode b_L_at 14 = .ok (.iconst 1, 1) := by decide +kernel
theorem d_L_at_15 : decode b_L_at 15 = .ok (.ireturn, 1) := by decide +kernel
theorem d_L_at_16 : decode b_L_at 16 = .ok (.iconst 0, 1) := by decide +kernel
theorem d_L_at_17 : decode b_L_at 17 = .ok (.ireturn, 1) := by decide +kernel
theorem d_L_join_0 : decode b_L_join 0 = .ok (.aload 4, 2) := by decide +kernel
theorem d_L_join_2 : decode b_L_join 2 = .ok (.iconst 0, 1) := by decide +kernel
theorem d_L_join_3 : decode b_L_join 3 = .ok (.aload_n 0, 1) := by decide +kernel
theorem d_L_join_4 : decode b_L_join 4 = .ok (.iload_n 1, 1) := by decide +kernel
theorem d_L_join_5 : decode b_L_join 5 = .ok (.iload_n 2, 1) := by decide +kernel
theorem d_L_join_6 : decode b_L_join 6 = .ok (.iload_n 3, 1) := by decide +kernel
theorem d_L_join_7 : decode b_L_join 7 = .ok (.invokevirtual 52, 3) := by decide +kernel
theorem d_L_join_10 : decode b_L_join 10 = .ok (.lastore, 1) := by decide +kernel
theorem d_L_join_11 : decode b_L_join 11 = .ok (.goto 7, 3) := by decide +kernel
theorem d_L_join_14 : decode b_L_join 14 = .ok (.astore 5, 2) := by decide +kernel
theorem d_L_join_16 : decode b_L_join 16 = .ok (.iconst 1, 1) := by decide +kernel
theorem d_L_join_17 : decode b_L_join 17 = .ok (.ireturn, 1) := by decide +kernel
theorem d_L_join_18 : decode b_L_join 18 = .ok (.iconst 0, 1) := by decide +kernel
theorem d_L_join_19 : decode b_L_join 19 = .ok (.ireturn, 1) := by decide +kernel
