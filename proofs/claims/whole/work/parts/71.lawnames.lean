/-! THE CLAIM OUT OF ONE WALK OF THE LAW'S BODY. Your part is whole_start (and what it stands on); all else here is the same for every law, but numbers. -/
def R_law : String := "HouseFunctionsLaw"
def lw_P (b : Addr) (xs : List Int32) (args : Array Value) (s : State) : Prop := args = #[.ref b] ∧ s.IntsAt b xs ∧ xs.length ≤ 2049 ∧ (Jvm.Cond.and given_1 narrow_1).before args s = true
def lw_Q (_ : Array Value) (s : State) (o : Outcome) (t : State) : Prop := o = .returned (some (.int 1)) ∧ Framed s o t [] 601024 7293000
def lw_Z (below : List Frame) (a : Array Value) (s : State) : State → Prop := fun t => ∃ o, t.status = .running ∧ Ended t below o ∧ lw_Q a s o t
/-- the law's own end, with 1 on the stack, nothing written that was there before, its room as the claim has it -/
theorem lw_ret {p : Program} {l : Launch} {e : Env} {s : State} {m : MethodId} {below : List Frame} {meth : Method} {c : Code} {b : Nat} (hx : p.tables.exec = Jvm.exec) (hb : c.code = code) (hr : meth.sig.returnType = ret) (hlocks : meth.locks = false) {pc : Nat} {H : Heap} {ls : Array Slot} (hdg : decode code pc = .ok (.ireturn, 1)) : W p l e room_1 s m #[Value.ref b] below meth c H [] 601024 7293000 (lw_Z below #[Value.ref b] s) (F0 m pc ls [.int 1]) := by
  intro T hT X
  obtain ⟨fs, hret, hrun, hended, hW, hframe⟩ := X.leave (v := some (.int 1)) (hlocks := hlocks) (fun h => by rw [hr] at h; cases h)
  have hmeth' : T.vm.method? m = some meth := X.method'
  refine ⟨T.setFrames fs, ?_, .returned (some (.int 1)), hrun, hended, rfl, ⟨_, rfl⟩, hW, hframe⟩
  jvm_step X.here [X.here.top, hx, hb, hdg, hmeth', hr, ret, narrow_b1]
  (try refine ⟨rfl, ?_⟩); (try refine ⟨rfl, ?_⟩)
  first | (intro acts; rw [hret _ acts rfl rfl rfl]) | rw [hret _ _ rfl rfl rfl]
  exact Steps.refl _
/-- what holds at the law's entry: the machine, the code, the tables' words (any of lw_tbl by 'hts w (by decide +kernel)'), the script of L ints xs at the cell b, what the Statement gives of the start (any of its parts by flat_of_before) -/
def lw_At (p : Program) (s : State) (m : MethodId) (meth : Method) (c : Code) (b L : Nat) (xs : Nat → Int32) : Prop :=
  p.tables.exec = Jvm.exec ∧ c.code = code ∧ meth.sig.returnType = ret ∧ c.maxLocals = 8 ∧ s.vm.findClass R_law = some m.cls ∧ (∀ w ∈ lw_tbl, w.before #[Value.ref b] s = true) ∧ va_X b L xs s s.heap ∧ b < s.heap.size ∧ meth.locks = false ∧ (Jvm.Cond.and given_1 narrow_1).before #[Value.ref b] s = true
theorem R_Ll : R_L = R_law := rfl
theorem gi_LM {ws : List Cond} (h : ∀ w ∈ ws, w ∈ al_L ∨ w ∈ al_M ∨ (w ∈ lw_tbl ∧ goodWord w = true)) : GoodIn lw_tbl ws := fun w hw => (h w hw).elim (fun q => ⟨am_L w q, good_of_word (List.all_eq_true.mp ag_L w q)⟩) (fun q => q.elim (fun q => ⟨am_M w q, good_of_word (List.all_eq_true.mp ag_M w q)⟩) (fun q => ⟨q.1, good_of_word q.2⟩))
theorem wm_L_0 : (Jvm.Cond.initialized "HouseFunctionsLaw") ∈ al_L := List.mem_of_getElem? (i := 0) rfl
theorem wm_L_61 : (Jvm.Cond.constantLong "HouseFunctionsLaw" (75 : Nat) (4294967295 : Int64)) ∈ al_L := List.mem_of_getElem? (i := 61) rfl
theorem wm_L_62 : (Jvm.Cond.arrayClass Jvm.ClassFile.FieldType.long) ∈ al_L := List.mem_of_getElem? (i := 62) rfl
theorem wm_L_66 : (Jvm.Cond.code ({ cls := "HouseFunctions", name := "<init>", desc := "(J)V" } : Jvm.MethodName) prog_1_method_1_code (4 : Nat) (Option.none : Option Jvm.ClassFile.FieldType)) ∈ al_L := List.mem_of_getElem? (i := 66) rfl
theorem wm_L_4 : (Jvm.Cond.methodLink "HouseFunctionsLaw" (56 : Nat) ({ cls := "HouseFunctionsLaw", name := "cell", desc := "([II)I" } : Jvm.MethodName)) ∈ al_L := List.mem_of_getElem? (i := 4) rfl
theorem wm_L_5 : (Jvm.Cond.static ({ cls := "HouseFunctionsLaw", name := "cell", desc := "([II)I" } : Jvm.MethodName)) ∈ al_L := List.mem_of_getElem? (i := 5) rfl
theorem wm_L_6 : (Jvm.Cond.code ({ cls := "HouseFunctionsLaw", name := "cell", desc := "([II)I" } : Jvm.MethodName) method_2_code (2 : Nat) (Option.some Jvm.ClassFile.FieldType.int)) ∈ al_L := List.mem_of_getElem? (i := 6) rfl
theorem wm_L_7 : (Jvm.Cond.methodLink "HouseFunctionsLaw" (68 : Nat) ({ cls := "HouseFunctionsLaw", name := "power", desc := "(LHouseFunctions;I[J)I" } : Jvm.MethodName)) ∈ al_L := List.mem_of_getElem? (i := 7) rfl
theorem wm_L_8 : (Jvm.Cond.static ({ cls := "HouseFunctionsLaw", name := "power", desc := "(LHouseFunctions;I[J)I" } : Jvm.MethodName)) ∈ al_L := List.mem_of_getElem? (i := 8) rfl
theorem wm_L_11 : (Jvm.Cond.methodLink "HouseFunctionsLaw" (77 : Nat) ({ cls := "HouseFunctionsLaw", name := "logarithm", desc := "(LHouseFunctions;J[J)I" } : Jvm.MethodName)) ∈ al_L := List.mem_of_getElem? (i := 11) rfl
theorem wm_L_12 : (Jvm.Cond.static ({ cls := "HouseFunctionsLaw", name := "logarithm", desc := "(LHouseFunctions;J[J)I" } : Jvm.MethodName)) ∈ al_L := List.mem_of_getElem? (i := 12) rfl
theorem wm_L_14 : (Jvm.Cond.methodLink "HouseFunctionsLaw" (81 : Nat) ({ cls := "HouseFunctionsLaw", name := "sine", desc := "(LHouseFunctions;I[J)I" } : Jvm.MethodName)) ∈ al_L := List.mem_of_getElem? (i := 14) rfl
theorem wm_L_15 : (Jvm.Cond.static ({ cls := "HouseFunctionsLaw", name := "sine", desc := "(LHouseFunctions;I[J)I" } : Jvm.MethodName)) ∈ al_L := List.mem_of_getElem? (i := 15) rfl
theorem wm_L_17 : (Jvm.Cond.methodLink "HouseFunctionsLaw" (84 : Nat) ({ cls := "HouseFunctionsLaw", name := "cosine", desc := "(LHouseFunctions;I[J)I" } : Jvm.MethodName)) ∈ al_L := List.mem_of_getElem? (i := 17) rfl
theorem wm_L_18 : (Jvm.Cond.static ({ cls := "HouseFunctionsLaw", name := "cosine", desc := "(LHouseFunctions;I[J)I" } : Jvm.MethodName)) ∈ al_L := List.mem_of_getElem? (i := 18) rfl
theorem wm_L_20 : (Jvm.Cond.methodLink "HouseFunctionsLaw" (87 : Nat) ({ cls := "HouseFunctionsLaw", name := "angle", desc := "(LHouseFunctions;II[J)I" } : Jvm.MethodName)) ∈ al_L := List.mem_of_getElem? (i := 20) rfl
theorem wm_L_21 : (Jvm.Cond.static ({ cls := "HouseFunctionsLaw", name := "angle", desc := "(LHouseFunctions;II[J)I" } : Jvm.MethodName)) ∈ al_L := List.mem_of_getElem? (i := 21) rfl
theorem wm_L_23 : (Jvm.Cond.methodLink "HouseFunctionsLaw" (91 : Nat) ({ cls := "HouseFunctionsLaw", name := "root", desc := "(LHouseFunctions;JI[J)I" } : Jvm.MethodName)) ∈ al_L := List.mem_of_getElem? (i := 23) rfl
theorem wm_L_24 : (Jvm.Cond.static ({ cls := "HouseFunctionsLaw", name := "root", desc := "(LHouseFunctions;JI[J)I" } : Jvm.MethodName)) ∈ al_L := List.mem_of_getElem? (i := 24) rfl
theorem wm_L_26 : (Jvm.Cond.methodLink "HouseFunctionsLaw" (95 : Nat) ({ cls := "HouseFunctionsLaw", name := "damp", desc := "(LHouseFunctions;II[J)I" } : Jvm.MethodName)) ∈ al_L := List.mem_of_getElem? (i := 26) rfl
theorem wm_L_27 : (Jvm.Cond.static ({ cls := "HouseFunctionsLaw", name := "damp", desc := "(LHouseFunctions;II[J)I" } : Jvm.MethodName)) ∈ al_L := List.mem_of_getElem? (i := 27) rfl
theorem wm_L_29 : (Jvm.Cond.methodLink "HouseFunctionsLaw" (98 : Nat) ({ cls := "HouseFunctionsLaw", name := "dew", desc := "(LHouseFunctions;I[J)I" } : Jvm.MethodName)) ∈ al_L := List.mem_of_getElem? (i := 29) rfl
theorem wm_L_30 : (Jvm.Cond.static ({ cls := "HouseFunctionsLaw", name := "dew", desc := "(LHouseFunctions;I[J)I" } : Jvm.MethodName)) ∈ al_L := List.mem_of_getElem? (i := 30) rfl
theorem wm_L_32 : (Jvm.Cond.methodLink "HouseFunctionsLaw" (101 : Nat) ({ cls := "HouseFunctionsLaw", name := "table", desc := "(LHouseFunctions;[J)I" } : Jvm.MethodName)) ∈ al_L := List.mem_of_getElem? (i := 32) rfl
theorem wm_L_33 : (Jvm.Cond.static ({ cls := "HouseFunctionsLaw", name := "table", desc := "(LHouseFunctions;[J)I" } : Jvm.MethodName)) ∈ al_L := List.mem_of_getElem? (i := 33) rfl
theorem wm_L_36 : (Jvm.Cond.methodLink "HouseFunctionsLaw" (105 : Nat) ({ cls := "HouseFunctionsLaw", name := "row", desc := "(LHouseFunctions;III[J)I" } : Jvm.MethodName)) ∈ al_L := List.mem_of_getElem? (i := 36) rfl
theorem wm_L_37 : (Jvm.Cond.static ({ cls := "HouseFunctionsLaw", name := "row", desc := "(LHouseFunctions;III[J)I" } : Jvm.MethodName)) ∈ al_L := List.mem_of_getElem? (i := 37) rfl
theorem wm_L_39 : (Jvm.Cond.methodLink "HouseFunctionsLaw" (109 : Nat) ({ cls := "HouseFunctionsLaw", name := "at", desc := "(LHouseFunctions;II[J)I" } : Jvm.MethodName)) ∈ al_L := List.mem_of_getElem? (i := 39) rfl
theorem wm_L_40 : (Jvm.Cond.static ({ cls := "HouseFunctionsLaw", name := "at", desc := "(LHouseFunctions;II[J)I" } : Jvm.MethodName)) ∈ al_L := List.mem_of_getElem? (i := 40) rfl
theorem wm_L_42 : (Jvm.Cond.methodLink "HouseFunctionsLaw" (117 : Nat) ({ cls := "HouseFunctionsLaw", name := "join", desc := "(LHouseFunctions;III[J)I" } : Jvm.MethodName)) ∈ al_L := List.mem_of_getElem? (i := 42) rfl
theorem wm_L_43 : (Jvm.Cond.static ({ cls := "HouseFunctionsLaw", name := "join", desc := "(LHouseFunctions;III[J)I" } : Jvm.MethodName)) ∈ al_L := List.mem_of_getElem? (i := 43) rfl
theorem wm_L_47 : (Jvm.Cond.methodLink "HouseFunctionsLaw" (72 : Nat) ({ cls := "HouseFunctionsModel", name := "thrown", desc := "()I" } : Jvm.MethodName)) ∈ al_L := List.mem_of_getElem? (i := 47) rfl
theorem wm_L_48 : (Jvm.Cond.methodLink "HouseFunctionsLaw" (71 : Nat) ({ cls := "HouseFunctionsModel", name := "power", desc := "(I)J" } : Jvm.MethodName)) ∈ al_L := List.mem_of_getElem? (i := 48) rfl
theorem wm_L_49 : (Jvm.Cond.methodLink "HouseFunctionsLaw" (80 : Nat) ({ cls := "HouseFunctionsModel", name := "logarithm", desc := "(J)J" } : Jvm.MethodName)) ∈ al_L := List.mem_of_getElem? (i := 49) rfl
theorem wm_L_50 : (Jvm.Cond.methodLink "HouseFunctionsLaw" (83 : Nat) ({ cls := "HouseFunctionsModel", name := "sine", desc := "(I)J" } : Jvm.MethodName)) ∈ al_L := List.mem_of_getElem? (i := 50) rfl
theorem wm_L_51 : (Jvm.Cond.methodLink "HouseFunctionsLaw" (86 : Nat) ({ cls := "HouseFunctionsModel", name := "cosine", desc := "(I)J" } : Jvm.MethodName)) ∈ al_L := List.mem_of_getElem? (i := 51) rfl
theorem wm_L_52 : (Jvm.Cond.methodLink "HouseFunctionsLaw" (90 : Nat) ({ cls := "HouseFunctionsModel", name := "angle", desc := "(II)J" } : Jvm.MethodName)) ∈ al_L := List.mem_of_getElem? (i := 52) rfl
theorem wm_L_53 : (Jvm.Cond.methodLink "HouseFunctionsLaw" (94 : Nat) ({ cls := "HouseFunctionsModel", name := "root", desc := "(JI)J" } : Jvm.MethodName)) ∈ al_L := List.mem_of_getElem? (i := 53) rfl
theorem wm_L_54 : (Jvm.Cond.methodLink "HouseFunctionsLaw" (97 : Nat) ({ cls := "HouseFunctionsModel", name := "damp", desc := "(II)J" } : Jvm.MethodName)) ∈ al_L := List.mem_of_getElem? (i := 54) rfl
theorem wm_L_55 : (Jvm.Cond.methodLink "HouseFunctionsLaw" (100 : Nat) ({ cls := "HouseFunctionsModel", name := "dew", desc := "(I)J" } : Jvm.MethodName)) ∈ al_L := List.mem_of_getElem? (i := 55) rfl
theorem wm_L_56 : (Jvm.Cond.methodLink "HouseFunctionsLaw" (104 : Nat) ({ cls := "HouseFunctionsModel", name := "table", desc := "()I" } : Jvm.MethodName)) ∈ al_L := List.mem_of_getElem? (i := 56) rfl
theorem wm_L_57 : (Jvm.Cond.methodLink "HouseFunctionsLaw" (108 : Nat) ({ cls := "HouseFunctionsModel", name := "row", desc := "(III)I" } : Jvm.MethodName)) ∈ al_L := List.mem_of_getElem? (i := 57) rfl
theorem wm_L_58 : (Jvm.Cond.methodLink "HouseFunctionsLaw" (111 : Nat) ({ cls := "HouseFunctionsModel", name := "at", desc := "(II)J" } : Jvm.MethodName)) ∈ al_L := List.mem_of_getElem? (i := 58) rfl
theorem wm_L_59 : (Jvm.Cond.methodLink "HouseFunctionsLaw" (119 : Nat) ({ cls := "HouseFunctionsModel", name := "join", desc := "(III)J" } : Jvm.MethodName)) ∈ al_L := List.mem_of_getElem? (i := 59) rfl
theorem wm_L_60 : (Jvm.Cond.methodLink "HouseFunctionsLaw" (116 : Nat) ({ cls := "HouseFunctionsModel", name := "drawn", desc := "(JI)I" } : Jvm.MethodName)) ∈ al_L := List.mem_of_getElem? (i := 60) rfl
set_option maxRecDepth 20000 in
theorem g_law_F_init : GoodIn lw_tbl (w_F_init) := gi_LM (List.forall_mem_cons.mpr ⟨Or.inl wm_L_66, fun w h => Or.inl (sb_L_F w h)⟩)
set_option maxRecDepth 20000 in
theorem g_law_F_drawn : GoodIn lw_tbl (wsV R_law 112 R_F y_F_drawn w_F_drawn) := gi_LM (List.forall_mem_cons.mpr ⟨Or.inl wm_L_3, List.forall_mem_cons.mpr ⟨Or.inl wm_L_78, List.forall_mem_cons.mpr ⟨Or.inl wm_L_79, List.forall_mem_cons.mpr ⟨Or.inl wm_L_63, List.forall_mem_cons.mpr ⟨Or.inl wm_L_80, fun w h => Or.inl (sb_L_F w h)⟩⟩⟩⟩⟩)
set_option maxRecDepth 20000 in
theorem g_law_L_cell : GoodIn lw_tbl (va_wsS R_law 56 y_L_cell w_L_cell) := gi_LM (List.forall_mem_cons.mpr ⟨Or.inl wm_L_4, List.forall_mem_cons.mpr ⟨Or.inl wm_L_5, List.forall_mem_cons.mpr ⟨Or.inl wm_L_0, List.forall_mem_cons.mpr ⟨Or.inl wm_L_6, fun w h => Or.inl h⟩⟩⟩⟩)
set_option maxRecDepth 20000 in
theorem g_law_L_power : GoodIn lw_tbl (va_wsS R_law 68 y_L_power w_L_power) := gi_LM (List.forall_mem_cons.mpr ⟨Or.inl wm_L_7, List.forall_mem_cons.mpr ⟨Or.inl wm_L_8, List.forall_mem_cons.mpr ⟨Or.inl wm_L_0, List.forall_mem_cons.mpr ⟨Or.inr (Or.inr ⟨List.mem_of_getElem? (i := 135) rfl, by decide +kernel⟩), fun w h => Or.inl h⟩⟩⟩⟩)
set_option maxRecDepth 20000 in
theorem g_law_L_logarithm : GoodIn lw_tbl (va_wsS R_law 77 y_L_logarithm w_L_logarithm) := gi_LM (List.forall_mem_cons.mpr ⟨Or.inl wm_L_11, List.forall_mem_cons.mpr ⟨Or.inl wm_L_12, List.forall_mem_cons.mpr ⟨Or.inl wm_L_0, List.forall_mem_cons.mpr ⟨Or.inr (Or.inr ⟨List.mem_of_getElem? (i := 276) rfl, by decide +kernel⟩), fun w h => Or.inl h⟩⟩⟩⟩)
set_option maxRecDepth 20000 in
theorem g_law_L_sine : GoodIn lw_tbl (va_wsS R_law 81 y_L_sine w_L_sine) := gi_LM (List.forall_mem_cons.mpr ⟨Or.inl wm_L_14, List.forall_mem_cons.mpr ⟨Or.inl wm_L_15, List.forall_mem_cons.mpr ⟨Or.inl wm_L_0, List.forall_mem_cons.mpr ⟨Or.inr (Or.inr ⟨List.mem_of_getElem? (i := 320) rfl, by decide +kernel⟩), fun w h => Or.inl h⟩⟩⟩⟩)
set_option maxRecDepth 20000 in
theorem g_law_L_cosine : GoodIn lw_tbl (va_wsS R_law 84 y_L_cosine w_L_cosine) := gi_LM (List.forall_mem_cons.mpr ⟨Or.inl wm_L_17, List.forall_mem_cons.mpr ⟨Or.inl wm_L_18, List.forall_mem_cons.mpr ⟨Or.inl wm_L_0, List.forall_mem_cons.mpr ⟨Or.inr (Or.inr ⟨List.mem_of_getElem? (i := 345) rfl, by decide +kernel⟩), fun w h => Or.inl h⟩⟩⟩⟩)
set_option maxRecDepth 20000 in
theorem g_law_L_angle : GoodIn lw_tbl (va_wsS R_law 87 y_L_angle w_L_angle) := gi_LM (List.forall_mem_cons.mpr ⟨Or.inl wm_L_20, List.forall_mem_cons.mpr ⟨Or.inl wm_L_21, List.forall_mem_cons.mpr ⟨Or.inl wm_L_0, List.forall_mem_cons.mpr ⟨Or.inr (Or.inr ⟨List.mem_of_getElem? (i := 352) rfl, by decide +kernel⟩), fun w h => Or.inl h⟩⟩⟩⟩)
set_option maxRecDepth 20000 in
theorem g_law_L_root : GoodIn lw_tbl (va_wsS R_law 91 y_L_root w_L_root) := gi_LM (List.forall_mem_cons.mpr ⟨Or.inl wm_L_23, List.forall_mem_cons.mpr ⟨Or.inl wm_L_24, List.forall_mem_cons.mpr ⟨Or.inl wm_L_0, List.forall_mem_cons.mpr ⟨Or.inr (Or.inr ⟨List.mem_of_getElem? (i := 379) rfl, by decide +kernel⟩), fun w h => Or.inl h⟩⟩⟩⟩)
set_option maxRecDepth 20000 in
theorem g_law_L_damp : GoodIn lw_tbl (va_wsS R_law 95 y_L_damp w_L_damp) := gi_LM (List.forall_mem_cons.mpr ⟨Or.inl wm_L_26, List.forall_mem_cons.mpr ⟨Or.inl wm_L_27, List.forall_mem_cons.mpr ⟨Or.inl wm_L_0, List.forall_mem_cons.mpr ⟨Or.inr (Or.inr ⟨List.mem_of_getElem? (i := 410) rfl, by decide +kernel⟩), fun w h => Or.inl h⟩⟩⟩⟩)
set_option maxRecDepth 20000 in
theorem g_law_L_dew : GoodIn lw_tbl (va_wsS R_law 98 y_L_dew w_L_dew) := gi_LM (List.forall_mem_cons.mpr ⟨Or.inl wm_L_29, List.forall_mem_cons.mpr ⟨Or.inl wm_L_30, List.forall_mem_cons.mpr ⟨Or.inl wm_L_0, List.forall_mem_cons.mpr ⟨Or.inr (Or.inr ⟨List.mem_of_getElem? (i := 424) rfl, by decide +kernel⟩), fun w h => Or.inl h⟩⟩⟩⟩)
set_option maxRecDepth 20000 in
theorem g_law_L_table : GoodIn lw_tbl (va_wsS R_law 101 y_L_table w_L_table) := gi_LM (List.forall_mem_cons.mpr ⟨Or.inl wm_L_32, List.forall_mem_cons.mpr ⟨Or.inl wm_L_33, List.forall_mem_cons.mpr ⟨Or.inl wm_L_0, List.forall_mem_cons.mpr ⟨Or.inr (Or.inr ⟨List.mem_of_getElem? (i := 452) rfl, by decide +kernel⟩), fun w h => Or.inl h⟩⟩⟩⟩)
set_option maxRecDepth 20000 in
theorem g_law_L_row : GoodIn lw_tbl (va_wsS R_law 105 y_L_row w_L_row) := gi_LM (List.forall_mem_cons.mpr ⟨Or.inl wm_L_36, List.forall_mem_cons.mpr ⟨Or.inl wm_L_37, List.forall_mem_cons.mpr ⟨Or.inl wm_L_0, List.forall_mem_cons.mpr ⟨Or.inr (Or.inr ⟨List.mem_of_getElem? (i := 476) rfl, by decide +kernel⟩), fun w h => Or.inl h⟩⟩⟩⟩)
set_option maxRecDepth 20000 in
theorem g_law_L_at : GoodIn lw_tbl (va_wsS R_law 109 y_L_at w_L_at) := gi_LM (List.forall_mem_cons.mpr ⟨Or.inl wm_L_39, List.forall_mem_cons.mpr ⟨Or.inl wm_L_40, List.forall_mem_cons.mpr ⟨Or.inl wm_L_0, List.forall_mem_cons.mpr ⟨Or.inr (Or.inr ⟨List.mem_of_getElem? (i := 499) rfl, by decide +kernel⟩), fun w h => Or.inl h⟩⟩⟩⟩)
set_option maxRecDepth 20000 in
theorem g_law_L_join : GoodIn lw_tbl (va_wsS R_law 117 y_L_join w_L_join) := gi_LM (List.forall_mem_cons.mpr ⟨Or.inl wm_L_42, List.forall_mem_cons.mpr ⟨Or.inl wm_L_43, List.forall_mem_cons.mpr ⟨Or.inl wm_L_0, List.forall_mem_cons.mpr ⟨Or.inr (Or.inr ⟨List.mem_of_getElem? (i := 518) rfl, by decide +kernel⟩), fun w h => Or.inl h⟩⟩⟩⟩)
set_option maxRecDepth 20000 in
theorem g_law_M_init : GoodIn lw_tbl (w_M_init) := gi_LM (List.forall_mem_cons.mpr ⟨Or.inr (Or.inl wm_M_3), fun w h => Or.inr (Or.inl h)⟩)
set_option maxRecDepth 20000 in
theorem g_law_M_thrown : GoodIn lw_tbl (wsV R_law 72 R_M y_M_thrown w_M_thrown) := gi_LM (List.forall_mem_cons.mpr ⟨Or.inl wm_L_47, List.forall_mem_cons.mpr ⟨Or.inr (Or.inl wm_M_23), List.forall_mem_cons.mpr ⟨Or.inr (Or.inl wm_M_24), List.forall_mem_cons.mpr ⟨Or.inr (Or.inl wm_M_0), List.forall_mem_cons.mpr ⟨Or.inr (Or.inl wm_M_25), fun w h => Or.inr (Or.inl h)⟩⟩⟩⟩⟩)
set_option maxRecDepth 20000 in
theorem g_law_M_power : GoodIn lw_tbl (wsV R_law 71 R_M y_M_power w_M_power) := gi_LM (List.forall_mem_cons.mpr ⟨Or.inl wm_L_48, List.forall_mem_cons.mpr ⟨Or.inr (Or.inl wm_M_26), List.forall_mem_cons.mpr ⟨Or.inr (Or.inl wm_M_27), List.forall_mem_cons.mpr ⟨Or.inr (Or.inl wm_M_0), List.forall_mem_cons.mpr ⟨Or.inr (Or.inl wm_M_28), fun w h => Or.inr (Or.inl h)⟩⟩⟩⟩⟩)
set_option maxRecDepth 20000 in
theorem g_law_M_logarithm : GoodIn lw_tbl (wsV R_law 80 R_M y_M_logarithm w_M_logarithm) := gi_LM (List.forall_mem_cons.mpr ⟨Or.inl wm_L_49, List.forall_mem_cons.mpr ⟨Or.inr (Or.inl wm_M_74), List.forall_mem_cons.mpr ⟨Or.inr (Or.inl wm_M_75), List.forall_mem_cons.mpr ⟨Or.inr (Or.inl wm_M_0), List.forall_mem_cons.mpr ⟨Or.inr (Or.inl wm_M_76), fun w h => Or.inr (Or.inl h)⟩⟩⟩⟩⟩)
set_option maxRecDepth 20000 in
theorem g_law_M_sine : GoodIn lw_tbl (wsV R_law 83 R_M y_M_sine w_M_sine) := gi_LM (List.forall_mem_cons.mpr ⟨Or.inl wm_L_50, List.forall_mem_cons.mpr ⟨Or.inr (Or.inl wm_M_87), List.forall_mem_cons.mpr ⟨Or.inr (Or.inl wm_M_88), List.forall_mem_cons.mpr ⟨Or.inr (Or.inl wm_M_0), List.forall_mem_cons.mpr ⟨Or.inr (Or.inl wm_M_89), fun w h => Or.inr (Or.inl h)⟩⟩⟩⟩⟩)
set_option maxRecDepth 20000 in
theorem g_law_M_cosine : GoodIn lw_tbl (wsV R_law 86 R_M y_M_cosine w_M_cosine) := gi_LM (List.forall_mem_cons.mpr ⟨Or.inl wm_L_51, List.forall_mem_cons.mpr ⟨Or.inr (Or.inl wm_M_111), List.forall_mem_cons.mpr ⟨Or.inr (Or.inl wm_M_112), List.forall_mem_cons.mpr ⟨Or.inr (Or.inl wm_M_0), List.forall_mem_cons.mpr ⟨Or.inr (Or.inl wm_M_113), fun w h => Or.inr (Or.inl h)⟩⟩⟩⟩⟩)
set_option maxRecDepth 20000 in
theorem g_law_M_angle : GoodIn lw_tbl (wsV R_law 90 R_M y_M_angle w_M_angle) := gi_LM (List.forall_mem_cons.mpr ⟨Or.inl wm_L_52, List.forall_mem_cons.mpr ⟨Or.inr (Or.inl wm_M_114), List.forall_mem_cons.mpr ⟨Or.inr (Or.inl wm_M_115), List.forall_mem_cons.mpr ⟨Or.inr (Or.inl wm_M_0), List.forall_mem_cons.mpr ⟨Or.inr (Or.inl wm_M_116), fun w h => Or.inr (Or.inl h)⟩⟩⟩⟩⟩)
set_option maxRecDepth 20000 in
theorem g_law_M_root : GoodIn lw_tbl (wsV R_law 94 R_M y_M_root w_M_root) := gi_LM (List.forall_mem_cons.mpr ⟨Or.inl wm_L_53, List.forall_mem_cons.mpr ⟨Or.inr (Or.inl wm_M_122), List.forall_mem_cons.mpr ⟨Or.inr (Or.inl wm_M_123), List.forall_mem_cons.mpr ⟨Or.inr (Or.inl wm_M_0), List.forall_mem_cons.mpr ⟨Or.inr (Or.inl wm_M_124), fun w h => Or.inr (Or.inl h)⟩⟩⟩⟩⟩)
set_option maxRecDepth 20000 in
theorem g_law_M_damp : GoodIn lw_tbl (wsV R_law 97 R_M y_M_damp w_M_damp) := gi_LM (List.forall_mem_cons.mpr ⟨Or.inl wm_L_54, List.forall_mem_cons.mpr ⟨Or.inr (Or.inl wm_M_127), List.forall_mem_cons.mpr ⟨Or.inr (Or.inl wm_M_128), List.forall_mem_cons.mpr ⟨Or.inr (Or.inl wm_M_0), List.forall_mem_cons.mpr ⟨Or.inr (Or.inl wm_M_129), fun w h => Or.inr (Or.inl h)⟩⟩⟩⟩⟩)
set_option maxRecDepth 20000 in
theorem g_law_M_dew : GoodIn lw_tbl (wsV R_law 100 R_M y_M_dew w_M_dew) := gi_LM (List.forall_mem_cons.mpr ⟨Or.inl wm_L_55, List.forall_mem_cons.mpr ⟨Or.inr (Or.inl wm_M_138), List.forall_mem_cons.mpr ⟨Or.inr (Or.inl wm_M_139), List.forall_mem_cons.mpr ⟨Or.inr (Or.inl wm_M_0), List.forall_mem_cons.mpr ⟨Or.inr (Or.inl wm_M_140), fun w h => Or.inr (Or.inl h)⟩⟩⟩⟩⟩)
set_option maxRecDepth 20000 in
theorem g_law_M_table : GoodIn lw_tbl (wsV R_law 104 R_M y_M_table w_M_table) := gi_LM (List.forall_mem_cons.mpr ⟨Or.inl wm_L_56, List.forall_mem_cons.mpr ⟨Or.inr (Or.inl wm_M_142), List.forall_mem_cons.mpr ⟨Or.inr (Or.inl wm_M_143), List.forall_mem_cons.mpr ⟨Or.inr (Or.inl wm_M_0), List.forall_mem_cons.mpr ⟨Or.inr (Or.inl wm_M_144), fun w h => Or.inr (Or.inl h)⟩⟩⟩⟩⟩)
set_option maxRecDepth 20000 in
theorem g_law_M_row : GoodIn lw_tbl (wsV R_law 108 R_M y_M_row w_M_row) := gi_LM (List.forall_mem_cons.mpr ⟨Or.inl wm_L_57, List.forall_mem_cons.mpr ⟨Or.inr (Or.inl wm_M_145), List.forall_mem_cons.mpr ⟨Or.inr (Or.inl wm_M_146), List.forall_mem_cons.mpr ⟨Or.inr (Or.inl wm_M_0), List.forall_mem_cons.mpr ⟨Or.inr (Or.inl wm_M_147), fun w h => Or.inr (Or.inl h)⟩⟩⟩⟩⟩)
set_option maxRecDepth 20000 in
theorem g_law_M_at : GoodIn lw_tbl (wsV R_law 111 R_M y_M_at w_M_at) := gi_LM (List.forall_mem_cons.mpr ⟨Or.inl wm_L_58, List.forall_mem_cons.mpr ⟨Or.inr (Or.inl wm_M_155), List.forall_mem_cons.mpr ⟨Or.inr (Or.inl wm_M_156), List.forall_mem_cons.mpr ⟨Or.inr (Or.inl wm_M_0), List.forall_mem_cons.mpr ⟨Or.inr (Or.inl wm_M_157), fun w h => Or.inr (Or.inl h)⟩⟩⟩⟩⟩)
set_option maxRecDepth 20000 in
theorem g_law_M_join : GoodIn lw_tbl (wsV R_law 119 R_M y_M_join w_M_join) := gi_LM (List.forall_mem_cons.mpr ⟨Or.inl wm_L_59, List.forall_mem_cons.mpr ⟨Or.inr (Or.inl wm_M_164), List.forall_mem_cons.mpr ⟨Or.inr (Or.inl wm_M_165), List.forall_mem_cons.mpr ⟨Or.inr (Or.inl wm_M_0), List.forall_mem_cons.mpr ⟨Or.inr (Or.inl wm_M_166), fun w h => Or.inr (Or.inl h)⟩⟩⟩⟩⟩)
set_option maxRecDepth 20000 in
theorem g_law_M_drawn : GoodIn lw_tbl (wsV R_law 116 R_M y_M_drawn w_M_drawn) := gi_LM (List.forall_mem_cons.mpr ⟨Or.inl wm_L_60, List.forall_mem_cons.mpr ⟨Or.inr (Or.inl wm_M_167), List.forall_mem_cons.mpr ⟨Or.inr (Or.inl wm_M_168), List.forall_mem_cons.mpr ⟨Or.inr (Or.inl wm_M_0), List.forall_mem_cons.mpr ⟨Or.inr (Or.inl wm_M_169), fun w h => Or.inr (Or.inl h)⟩⟩⟩⟩⟩)
theorem d_law_51 : decode code 51 = .ok (.tableswitch 944 0 12 #[65, 120, 207, 262, 317, 384, 483, 550, 605, 649, 729, 796, 865], 65) := by decide +kernel
