/-! METHODS THAT MAY THROW: cx_XC (where it threw: the class by ex, all cells as they were), a contract's opening, calls, the way out. -/
def cx_XC (D : va_G) (cl : List vw_C) (tys : List (ClassId × FieldType)) (ws : va_W) (ex : String → Prop) (A : Nat → Prop) : String → State → State → Prop :=
  vx_X (S := Unit) (fun _ => True) (fun E _ t => ex E ∧ va_P D cl ws t.heap ∧ va_K D cl tys t ∧ va_D A ws) A
theorem ct_keep {D : va_G} {cl : List vw_C} {ws wc : va_W} {A : Nat → Prop} {H H1 : Heap} (hP : va_P D cl ws H) (hD : va_D A ws) (isC : List Nat) (hC : isC.map (fun i => ws[i]?) = wc.map some)
    (hk : ∀ q : Nat, q < H.size → ¬ va_A wc H.size q → H1[q]? = H[q]?) (hP1 : va_P D cl wc H1) : va_P D cl ws H1 := by
  rintro k ⟨qa, qe⟩ hq
  by_cases hm : ∃ (j : Nat) (e : va_E), wc[j]? = some (qa, e)
  · obtain ⟨j, e, hj⟩ := hm
    have h1 : (wc.map some)[j]? = some (some (qa, e)) := by rw [List.getElem?_map, hj]; rfl
    rw [← hC, List.getElem?_map] at h1
    cases hi : isC[j]? with
    | none => rw [hi] at h1; simp at h1
    | some i =>
      rw [hi] at h1
      simp only [Option.map_some, Option.some.injEq] at h1
      have e1 := hD.1 i k _ _ h1 hq rfl
      subst e1
      rw [h1] at hq
      cases hq
      exact hP1 j _ hj
  · refine (hP k _ hq).kept (hk qa (hP k _ hq).lt ?_)
    rintro (⟨k2, e2, h2⟩ | h2)
    · exact hm ⟨k2, e2, h2⟩
    · exact absurd (hP k _ hq).lt (Nat.not_lt.mpr h2)
section CX
variable {l : Launch} {y : MethodName} {wds wds' : List Cond} {rm : Room} {D : va_G} {cl : List vw_C} {tys : List (ClassId × FieldType)} {G : ct_GT} {av : List Value} {ws : va_W} {sz : Nat} {mc ms : Nat} {cc : ByteArray} {maxL : Nat} {ret : Option FieldType}
abbrev cx_V (l : Launch) (y : MethodName) (wds : List Cond) (rm : Room) (D : va_G) (cl : List vw_C) (tys : List (ClassId × FieldType)) (G : ct_GT) (av : List Value) (ws : va_W) (sz : Nat) {S : Type} (post : S → Prop) (tys1 : S → List (ClassId × FieldType)) (w1 : S → va_W) (ex : String → Prop) (mc ms : Nat) : Prop :=
  vx_Met l y wds rm (va_Pc av (ct_P D cl tys G ws sz)) (va_Qv post (ct_B D cl tys1 (va_A ws sz) w1) (va_A ws sz)) (cx_XC D cl tys ws ex (va_A ws sz)) mc ms (va_A ws sz)
abbrev cx_I (l : Launch) (y : MethodName) (wds : List Cond) (rm : Room) (D : va_G) (cl : List vw_C) (tys : List (ClassId × FieldType)) (G : ct_GT) (av : List Value) (ws : va_W) (sz : Nat) {S : Type} (post : Int32 → S → Prop) (tys1 : S → List (ClassId × FieldType)) (w1 : S → va_W) (ex : String → Prop) (mc ms : Nat) : Prop :=
  vx_Met l y wds rm (va_Pc av (ct_P D cl tys G ws sz)) (va_Qi post (ct_B D cl tys1 (va_A ws sz) w1) (va_A ws sz)) (cx_XC D cl tys ws ex (va_A ws sz)) mc ms (va_A ws sz)
abbrev cx_L (l : Launch) (y : MethodName) (wds : List Cond) (rm : Room) (D : va_G) (cl : List vw_C) (tys : List (ClassId × FieldType)) (G : ct_GT) (av : List Value) (ws : va_W) (sz : Nat) {S : Type} (post : Int64 → S → Prop) (tys1 : S → List (ClassId × FieldType)) (w1 : S → va_W) (ex : String → Prop) (mc ms : Nat) : Prop :=
  vx_Met l y wds rm (va_Pc av (ct_P D cl tys G ws sz)) (va_Ql post (ct_B D cl tys1 (va_A ws sz) w1) (va_A ws sz)) (cx_XC D cl tys ws ex (va_A ws sz)) mc ms (va_A ws sz)
theorem cx_of {Qf : (Nat → Prop) → Array Value → State → Outcome → State → Prop} {Xf : (Nat → Prop) → String → State → State → Prop} (hy : plainName y.cls = true) (hw : wds = Cond.code y cc maxL ret :: wds') (hlen : (lg_sl av).length ≤ maxL)
    (body : ∀ (p : Program) (e : Env) (s : State) (m : MethodId) (below : List Frame) (meth : Method) (c : Code) (A : Nat → Prop) (ls : Array Slot), ct_F p s m meth c cc ret maxL wds y av.toArray → (∀ x ∈ c.exceptionTable.toList, False) → (∀ q, s.heap.size ≤ q → A q) → va_P D cl ws s.heap → va_K D cl tys s → va_D A ws → G A s s.heap → va_S A s.heap s.heap [] → lv_has ls maxL (lv_args 0 av) →
      W p l e rm s m av.toArray below meth c s.heap [] 0 0 (vx_MQ below (Qf A) (Xf A) av.toArray s mc ms A) (F0 m 0 ls [])) :
    vx_Met l y wds rm (va_Pc av (ct_P D cl tys G ws sz)) (Qf (va_A ws sz)) (Xf (va_A ws sz)) mc ms (va_A ws sz) := by
  refine vx_ofW (cc := cc) (maxL := maxL) (ret := ret) hy hw ?_
  intro p e s m args below meth c s₁ B hml hno hv
  obtain ⟨rfl, hsz, hP, hK, hD0, hG⟩ := hv
  subst hsz
  have hl := lv_entry av (n := maxL) hlen
  rw [lg_entry_eq]
  exact body p e s m below meth c (va_A ws s.heap.size) _ ⟨B.exec, B.bytes, B.returns, hml, atoms_spec (ws := wds) B.pre, findClass_of_methodNamed B.named, B.notSynchronized, (name_of_methodNamed B.named B.method).1⟩ hno (fun q h => Or.inr h) hP hK (hD0.self (sz := s.heap.size)) hG va_S.rf hl
end CX
section CXb
variable {p : Program} {l : Launch} {e : Env} {R : Room} {s : State} {m : MethodId} {args : Array Value} {below : List Frame} {meth : Method} {c : Code} {H : Heap} {locs : List Loc} {cells slots : Nat} {Q : State → Prop}
variable {D : va_G} {cl : List vw_C} {tys tysC : List (ClassId × FieldType)} {ws wc : va_W} {A : Nat → Prop} {mc ms : Nat} {H0 : Heap} {a : Array Value} {pc : Nat} {ls : Array Slot} {st0 rest : List Value} {S : Type} {w1 : S → va_W} {tys1 : S → List (ClassId × FieldType)} {ex : String → Prop}
/-- thrown here and not caught: on to the caller -/
theorem cx_out {Qc : Array Value → State → Outcome → State → Prop} {E : String} {ce : Cell} {q : Addr} (hno : ∀ x ∈ c.exceptionTable.toList, False) (hlocks : meth.locks = false) (hE : ex E) (hP : va_P D cl ws H) (hK : va_K D cl tys s) (hD : va_D A ws) (hS : va_S A s.heap H locs)
    (hcell : H[q]? = some ce) (hv : ce.vm = .none) (hcl : s.vm.findClass E = some ce.cls) (hc : cells ≤ mc) (hs : slots ≤ ms) :
    vx_W p l e R s m args below meth c H locs cells slots (vx_MQ below Qc (cx_XC D cl tys ws ex A) args s mc ms A) (F0 m pc ls rest) q :=
  vx_out (fun x hx => (hno x hx).elim) hlocks hcell hv hcl (fun t ht hvm => ⟨(), trivial, ⟨hE, by rw [ht]; exact hP, va_K.moved hvm hK, hD⟩, hS.F ht⟩) hS.2.2 hc hs
theorem cx_callv {post : S → Prop} (hr : vx_Run p l e R s m args below meth c H locs cells slots mc ms (F0 m pc ls st0) rest (va_Qv post (ct_B D cl tys1 (va_A wc H.size) w1) (va_A wc H.size) a) (cx_XC D cl tysC wc ex (va_A wc H.size)) (va_A wc H.size))
    (hP : va_P D cl ws H) (hD : va_D A ws) (hS : va_S A H0 H locs) (hA : ∀ q, H0.size ≤ q → A q) (isC : List Nat) (hC : isC.map (fun i => ws[i]?) = wc.map some) (hn : va_nd isC = true) (hs : ∀ u, (w1 u).map Prod.fst = wc.map Prod.fst)
    (kx : ∀ (E : String) (ce : Cell) (q9 : Addr) (H1 : Heap) (locs1 : List Loc), ex E → va_P D cl ws H1 → va_S A H0 H1 locs1 → H1[q9]? = some ce → ce.vm = .none → s.vm.findClass E = some ce.cls → vx_W p l e R s m args below meth c H1 locs1 (cells + mc) (slots + ms) Q (F0 m pc ls rest) q9)
    (kk : ∀ (u : S) (H1 : Heap) (locs1 : List Loc), post u → va_P D cl (ct_sets ws isC (w1 u)) H1 → va_D A (ct_sets ws isC (w1 u)) → va_S A H0 H1 locs1 → W p l e R s m args below meth c H1 locs1 (cells + mc) (slots + ms) Q (F0 m (pc + 3) ls rest)) :
    W p l e R s m args below meth c H locs cells slots Q (F0 m pc ls st0) := by
  have hF := va_free hD hS hA isC hC
  refine vx_callv hr hS (fun q _ h => hF q h) hF (fun q _ h => hF q h) (fun E ce q9 u t H1 locs1 ht hvm hpx hB hz hk hS1 hcell hv hcl => ?_) (fun u t H1 locs1 ht hvm hw hB hz hk hS1 => ?_)
  · obtain ⟨hE, hP1, -, -⟩ := hB
    rw [ht] at hP1
    exact kx E ce q9 H1 locs1 hE (ct_keep hP hD isC hC hk hP1) hS1 hcell hv hcl
  · obtain ⟨hP1, hK1, hD1⟩ := hB
    rw [ht] at hP1
    obtain ⟨hP2, hD2⟩ := ct_put hP hD isC hC hn (hs u) hk hP1
    exact kk u H1 locs1 hw hP2 hD2 hS1
theorem cx_calli {post : Int32 → S → Prop} (hr : vx_Run p l e R s m args below meth c H locs cells slots mc ms (F0 m pc ls st0) rest (va_Qi post (ct_B D cl tys1 (va_A wc H.size) w1) (va_A wc H.size) a) (cx_XC D cl tysC wc ex (va_A wc H.size)) (va_A wc H.size))
    (hP : va_P D cl ws H) (hD : va_D A ws) (hS : va_S A H0 H locs) (hA : ∀ q, H0.size ≤ q → A q) (isC : List Nat) (hC : isC.map (fun i => ws[i]?) = wc.map some) (hn : va_nd isC = true) (hs : ∀ u, (w1 u).map Prod.fst = wc.map Prod.fst)
    (kx : ∀ (E : String) (ce : Cell) (q9 : Addr) (H1 : Heap) (locs1 : List Loc), ex E → va_P D cl ws H1 → va_S A H0 H1 locs1 → H1[q9]? = some ce → ce.vm = .none → s.vm.findClass E = some ce.cls → vx_W p l e R s m args below meth c H1 locs1 (cells + mc) (slots + ms) Q (F0 m pc ls rest) q9)
    (kk : ∀ (r : Int32) (u : S) (H1 : Heap) (locs1 : List Loc), post r u → va_P D cl (ct_sets ws isC (w1 u)) H1 → va_D A (ct_sets ws isC (w1 u)) → va_S A H0 H1 locs1 → W p l e R s m args below meth c H1 locs1 (cells + mc) (slots + ms) Q (F0 m (pc + 3) ls (.int r :: rest))) :
    W p l e R s m args below meth c H locs cells slots Q (F0 m pc ls st0) := by
  have hF := va_free hD hS hA isC hC
  refine vx_calli hr hS (fun q _ h => hF q h) hF (fun q _ h => hF q h) (fun E ce q9 u t H1 locs1 ht hvm hpx hB hz hk hS1 hcell hv hcl => ?_) (fun r u t H1 locs1 ht hvm hw hB hz hk hS1 => ?_)
  · obtain ⟨hE, hP1, -, -⟩ := hB
    rw [ht] at hP1
    exact kx E ce q9 H1 locs1 hE (ct_keep hP hD isC hC hk hP1) hS1 hcell hv hcl
  · obtain ⟨hP1, hK1, hD1⟩ := hB
    rw [ht] at hP1
    obtain ⟨hP2, hD2⟩ := ct_put hP hD isC hC hn (hs u) hk hP1
    exact kk r u H1 locs1 hw hP2 hD2 hS1
theorem cx_calll {post : Int64 → S → Prop} (hr : vx_Run p l e R s m args below meth c H locs cells slots mc ms (F0 m pc ls st0) rest (va_Ql post (ct_B D cl tys1 (va_A wc H.size) w1) (va_A wc H.size) a) (cx_XC D cl tysC wc ex (va_A wc H.size)) (va_A wc H.size))
    (hP : va_P D cl ws H) (hD : va_D A ws) (hS : va_S A H0 H locs) (hA : ∀ q, H0.size ≤ q → A q) (isC : List Nat) (hC : isC.map (fun i => ws[i]?) = wc.map some) (hn : va_nd isC = true) (hs : ∀ u, (w1 u).map Prod.fst = wc.map Prod.fst)
    (kx : ∀ (E : String) (ce : Cell) (q9 : Addr) (H1 : Heap) (locs1 : List Loc), ex E → va_P D cl ws H1 → va_S A H0 H1 locs1 → H1[q9]? = some ce → ce.vm = .none → s.vm.findClass E = some ce.cls → vx_W p l e R s m args below meth c H1 locs1 (cells + mc) (slots + ms) Q (F0 m pc ls rest) q9)
    (kk : ∀ (r : Int64) (u : S) (H1 : Heap) (locs1 : List Loc), post r u → va_P D cl (ct_sets ws isC (w1 u)) H1 → va_D A (ct_sets ws isC (w1 u)) → va_S A H0 H1 locs1 → W p l e R s m args below meth c H1 locs1 (cells + mc) (slots + ms) Q (F0 m (pc + 3) ls (.long r :: rest))) :
    W p l e R s m args below meth c H locs cells slots Q (F0 m pc ls st0) := by
  have hF := va_free hD hS hA isC hC
  refine vx_calll hr hS (fun q _ h => hF q h) hF (fun q _ h => hF q h) (fun E ce q9 u t H1 locs1 ht hvm hpx hB hz hk hS1 hcell hv hcl => ?_) (fun r u t H1 locs1 ht hvm hw hB hz hk hS1 => ?_)
  · obtain ⟨hE, hP1, -, -⟩ := hB
    rw [ht] at hP1
    exact kx E ce q9 H1 locs1 hE (ct_keep hP hD isC hC hk hP1) hS1 hcell hv hcl
  · obtain ⟨hP1, hK1, hD1⟩ := hB
    rw [ht] at hP1
    obtain ⟨hP2, hD2⟩ := ct_put hP hD isC hC hn (hs u) hk hP1
    exact kk r u H1 locs1 hw hP2 hD2 hS1
end CXb
def xt_I : List Cond := vx_atS R_F 150 "java/lang/IllegalArgumentException" ["java/lang/RuntimeException", "java/lang/Exception"]
def xt_S : List Cond := vx_atS R_F 116 "java/lang/IllegalStateException" ["java/lang/RuntimeException", "java/lang/Exception"]
def xd_D (C : String) : Cond := .declares ⟨C, "<init>", "(Ljava/lang/String;)V"⟩
def xb_I : List Cond := [xd_D "java/lang/RuntimeException", xd_D "java/lang/Exception", xd_D "java/lang/Throwable", .castable "java/lang/IllegalArgumentException" "java/lang/IllegalArgumentException"]
def xb_S : List Cond := [xd_D "java/lang/RuntimeException", xd_D "java/lang/Exception", xd_D "java/lang/Throwable", .castable "java/lang/IllegalStateException" "java/lang/IllegalStateException"]
set_option maxRecDepth 20000 in
theorem xt_Ib : xt_I.filter (fun w => !goodWord w) = xb_I := by decide +kernel
set_option maxRecDepth 20000 in
theorem xt_Sb : xt_S.filter (fun w => !goodWord w) = xb_S := by decide +kernel
theorem xt_Iot : ∀ w ∈ (Jvm.Cond.classLink R_F 146 "java/lang/IllegalArgumentException") :: .initialized "java/lang/IllegalArgumentException" :: xt_I, vx_ot w = true := by decide +kernel
theorem xt_Sot : ∀ w ∈ (Jvm.Cond.classLink R_F 112 "java/lang/IllegalStateException") :: .initialized "java/lang/IllegalStateException" :: xt_S, vx_ot w = true := by decide +kernel
/-- what the statics and the tables give for a throw: s1 .. s4 the texts -/
def xg_G (s1 s2 s3 s4 : Nat) : ct_GT := fun A U H =>
  ((∀ w ∈ xb_I ++ xb_S, va_Nw w U) ∧ vx_Zq Bundle.tN "UNASSIGNED_STACK" Bundle.steD A U H ∧ vx_Zq Bundle.tN "SUPPRESSED_SENTINEL" Bundle.listD A U H) ∧
  vk_R R_F 148 "a number is out of its bounds" s1 U ∧ vk_R R_F 114 "there are 6 tables" s2 U ∧ vk_R R_F 151 "there is no such table" s3 U ∧ vk_R R_F 129 "the table has 20 rows" s4 U
theorem xb_ot : ∀ w ∈ xb_I ++ xb_S, w.onTables = true := by decide +kernel
theorem xb_warm {s U : State} (hW : s.WarmedH U.vm) (h : ∀ w ∈ xb_I ++ xb_S, va_Nw w s) : ∀ w ∈ xb_I ++ xb_S, va_Nw w U := by
  intro w hw
  have h1 := h w hw
  simp only [xb_I, xb_S, List.cons_append, List.nil_append, List.mem_cons, List.not_mem_nil, or_false] at hw
  rcases hw with e | e | e | e | e | e | e | e <;> subst e <;> first | exact va_Nw.warmD hW h1 | exact va_Nw.warmC hW h1
theorem xg_Gok (s1 s2 s3 s4 : Nat) : ct_Gok (xg_G s1 s2 s3 s4) :=
  ⟨fun _ _ _ _ h q => ⟨⟨h.elim (fun e w hw => va_Nw.same (xb_ot w hw) e (q.1.1 w hw)) (fun k => xb_warm k q.1.1), vx_Zq.moved (ct_alk h) q.1.2.1, vx_Zq.moved (ct_alk h) q.1.2.2⟩,
      h.elim (fun e => vk_R.same e.symm q.2.1) (fun k => vk_R.warm k q.2.1), h.elim (fun e => vk_R.same e.symm q.2.2.1) (fun k => vk_R.warm k q.2.2.1), h.elim (fun e => vk_R.same e.symm q.2.2.2.1) (fun k => vk_R.warm k q.2.2.2.1), h.elim (fun e => vk_R.same e.symm q.2.2.2.2) (fun k => vk_R.warm k q.2.2.2.2)⟩,
   fun _ _ _ _ h q => ⟨⟨q.1.1, vx_Zq.kept q.1.2.1 h, vx_Zq.kept q.1.2.2 h⟩, q.2⟩, fun _ _ _ _ h q => ⟨⟨q.1.1, vx_Zq.narrow q.1.2.1 h, vx_Zq.narrow q.1.2.2 h⟩, q.2⟩⟩
theorem xt_hatI {args : Array Value} {s : State} (ha : ∀ w ∈ al_F, w.before args s = true) (hb : ∀ w ∈ xb_I ++ xb_S, va_Nw w s) : ∀ w ∈ vx_atS R_F 150 "java/lang/IllegalArgumentException" ["java/lang/RuntimeException", "java/lang/Exception"], w.before args s = true :=
  vx_hat (B := xb_I) (fun w hw => ha w (sx_I w hw)) (fun w hw => by rw [show (vx_atS R_F 150 "java/lang/IllegalArgumentException" ["java/lang/RuntimeException", "java/lang/Exception"]).filter (fun w => !goodWord w) = xb_I from xt_Ib] at hw; exact hw) (fun w hw => va_Nw.use (xb_ot w (List.mem_append_left _ hw)) (hb w (List.mem_append_left _ hw)))
theorem xt_hatS {args : Array Value} {s : State} (ha : ∀ w ∈ al_F, w.before args s = true) (hb : ∀ w ∈ xb_I ++ xb_S, va_Nw w s) : ∀ w ∈ vx_atS R_F 116 "java/lang/IllegalStateException" ["java/lang/RuntimeException", "java/lang/Exception"], w.before args s = true :=
  vx_hat (B := xb_S) (fun w hw => ha w (sx_S w hw)) (fun w hw => by rw [show (vx_atS R_F 116 "java/lang/IllegalStateException" ["java/lang/RuntimeException", "java/lang/Exception"]).filter (fun w => !goodWord w) = xb_S from xt_Sb] at hw; exact hw) (fun w hw => va_Nw.use (xb_ot w (List.mem_append_right _ hw)) (hb w (List.mem_append_right _ hw)))
theorem cx_thrown {D : va_G} {cl : List vw_C} {tys : List (ClassId × FieldType)} {ws : va_W} {A : Nat → Prop} {ex : String → Prop} {E : String} {s : State} {H : Heap} {locs : List Loc} (hE : ex E) (hP : va_P D cl ws H) (hK : va_K D cl tys s) (hD : va_D A ws) (hS : va_S A s.heap H locs) :
    ∀ t : State, s.vm.Alike t.vm → H.size ≤ t.heap.size → (∀ q : Nat, q < H.size → t.heap[q]? = H[q]?) → cx_XC D cl tys ws ex A E s t :=
  fun t hvm hz hk => ⟨(), trivial, ⟨hE, fun k q hq => (hP k q hq).kept (hk q.1 (hP k q hq).lt), va_K.moved hvm hK, hD⟩, ⟨Nat.le_trans hS.1 hz, fun q h1 h2 => (hk q (Nat.lt_of_lt_of_le h1 hS.1)).trans (hS.2.1 q h1 h2)⟩⟩
theorem ct_nlt1 {v : Int64} (h : 0 < v) : ¬ v < 1 := by
  rw [Int64.lt_iff_toInt_lt] at *
  have e0 : (0 : Int64).toInt = 0 := rfl
  have e1 : (1 : Int64).toInt = 1 := rfl
  omega
