/-! the law's wrappers: a body with handlers, their facts -/
theorem ch_of {l : Launch} {y : MethodName} {wds wds' : List Cond} {rm : Room} {D : va_G} {cl : List vw_C} {tys : List (ClassId × FieldType)} {G : ct_GT} {av : List Value} {ws : va_W} {sz : Nat} {mc ms : Nat} {cc : ByteArray} {maxL : Nat} {ret : Option FieldType} {hh : List (Nat × Nat × Nat × Nat)} {Qf : (Nat → Prop) → Array Value → State → Outcome → State → Prop} (hy : plainName y.cls = true) (hw : wds = Cond.codeWith y cc maxL ret hh :: wds') (hlen : (lg_sl av).length ≤ maxL)
    (body : ∀ (p : Program) (e : Env) (s : State) (m : MethodId) (below : List Frame) (meth : Method) (c : Code) (A : Nat → Prop) (ls : Array Slot), ct_F p s m meth c cc ret maxL wds y av.toArray → c.exceptionTable.toList = tableOf hh → (∀ q, s.heap.size ≤ q → A q) → va_P D cl ws s.heap → va_K D cl tys s → va_D A ws → G A s s.heap → va_S A s.heap s.heap [] → lv_has ls maxL (lv_args 0 av) →
      W p l e rm s m av.toArray below meth c s.heap [] 0 0 (MQ below (Qf A) av.toArray s mc ms A) (F0 m 0 ls [])) :
    Met l y wds rm (va_Pc av (ct_P D cl tys G ws sz)) (Qf (va_A ws sz)) mc ms (va_A ws sz) := by
  refine va_MetW (cc := cc) (maxL := maxL) (ret := ret) (hh := hh) hy hw ?_
  intro p e s m args below meth c s₁ B hml hv
  obtain ⟨rfl, hsz, hP, hK, hD0, hG⟩ := hv
  subst hsz
  have hl := lv_entry av (n := maxL) hlen
  rw [lg_entry_eq]
  have ht : c.exceptionTable.toList = tableOf hh := vx_table (x := y) B (atoms_spec (ws := wds) B.pre _ (by rw [hw]; exact List.mem_cons_self))
  exact body p e s m below meth c (va_A ws s.heap.size) _ ⟨B.exec, B.bytes, B.returns, hml, atoms_spec (ws := wds) B.pre, findClass_of_methodNamed B.named, B.notSynchronized, (name_of_methodNamed B.named B.method).1⟩ ht (fun q h => Or.inr h) hP hK (hD0.self (sz := s.heap.size)) hG va_S.rf hl
def lg_G (s1 s2 s3 s4 tl th ta : Nat) : ct_GT := fun A U H => fg_G s1 s2 s3 s4 tl th ta A U H ∧ va_Nc "java/lang/IllegalStateException" "java/lang/IllegalArgumentException" U
theorem lg_Gok (s1 s2 s3 s4 tl th ta : Nat) : ct_Gok (lg_G s1 s2 s3 s4 tl th ta) := ⟨fun A u U H h q => ⟨(fg_Gok s1 s2 s3 s4 tl th ta).1 A u U H h q.1, va_Nc.moved (ct_alk h) q.2⟩, fun A U H H1 h q => ⟨(fg_Gok s1 s2 s3 s4 tl th ta).2.1 A U H H1 h q.1, q.2⟩, fun A B U H h q => ⟨(fg_Gok s1 s2 s3 s4 tl th ta).2.2 A B U H h q.1, q.2⟩⟩
theorem lwA (c0 : Nat × va_E) (fx : Nat) (sd : Int64) (tb tc : Nat) (ad : Nat → Nat) (cL : ClassId) (u v : rk_U) : ct_sets (c0 :: fw_w fx sd tb tc ad cL u) [1, 2, 3, 4, 5, 6, 7, 8, 9, 10, 11, 12, 13, 14, 15, 16, 17] (fw_w fx sd tb tc ad cL v) = c0 :: fw_w fx sd tb tc ad cL v := rfl
theorem lw_tail {c0 : Nat × va_E} {ws cs : va_W} {is : List Nat} (n : Nat) (hi : is = (List.range n).map (· + 1)) (hn : va_nd is = true) (hw : ws.length = n) (hc : cs.length = n) : ct_sets (c0 :: ws) is cs = c0 :: cs := by
  apply List.ext_getElem?
  intro k
  cases k with
  | zero =>
    rw [ct_sets_out is cs (c0 :: ws) 0 (by rw [hi]; simp)]; rfl
  | succ k =>
    by_cases h : k < n
    · rw [ct_sets_in is cs (c0 :: ws) hn (by rw [hi]; simp [hc]) (fun i hm => by rw [hi] at hm; simp at hm; simp [hw]; omega) k (k + 1) (by rw [hi]; simp [h])]
      rfl
    · rw [ct_sets_out is cs (c0 :: ws) (k + 1) (by rw [hi]; simp; omega)]
      rw [List.getElem?_eq_none (by simp; omega), List.getElem?_eq_none (by simp; omega)]
theorem fq_len (fx : Nat) (sd : Int64) (tb tc ra : Nat) (cT cI : ClassId) (tt : Nat → Nat) (T : fq_T) : (fq_w fx sd tb tc ra cT cI tt T).length = 20 := rfl
theorem lwB (c0 : Nat × va_E) (fx : Nat) (sd : Int64) (tb tc ra : Nat) (cT cI : ClassId) (tt : Nat → Nat) (T T' : fq_T) : ct_sets (c0 :: fq_w fx sd tb tc ra cT cI tt T) [1, 2, 3, 4, 5, 6, 7, 8, 9, 10, 11, 12, 13, 14, 15, 16, 17, 18, 19, 20] (fq_w fx sd tb tc ra cT cI tt T') = c0 :: fq_w fx sd tb tc ra cT cI tt T' :=
  lw_tail 20 (by decide) (by decide) (fq_len fx sd tb tc ra cT cI tt T) (fq_len fx sd tb tc ra cT cI tt T')
