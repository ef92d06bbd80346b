/-! MY OWN WORDS FOR CONTRACTS: ct_P (a start), ct_B (an end), calls that put the callee's cells beside the rest (ct_callv, ct_calli, ct_calll, ct_callr), ends (ct_vret ..), a method's opening (ct_of ..). G: what the statics hold, any heap outside A. -/
theorem ct_fm {α β : Type} {f : α → Option β} : ∀ {is : List α} {ws : List β}, is.map f = ws.map some → is.filterMap f = ws
  | [], [], _ => rfl
  | [], _ :: _, h => by simp at h
  | _ :: _, [], h => by simp at h
  | a :: is, w :: ws, h => by
    simp only [List.map_cons, List.cons.injEq] at h
    rw [List.filterMap_cons, h.1]
    exact congrArg (List.cons w) (ct_fm h.2)
abbrev ct_GT : Type := (Nat → Prop) → State → Heap → Prop
theorem ct_alk {u U : State} (h : u.vm = U.vm ∨ u.WarmedH U.vm) : u.vm.Alike U.vm := h.elim (fun e => by rw [e]; exact Vm.Alike.refl _) (fun w => w.alike)
def ct_Gok (G : ct_GT) : Prop := (∀ (A : Nat → Prop) (u U : State) (H : Heap), (u.vm = U.vm ∨ u.WarmedH U.vm) → G A u H → G A U H) ∧ (∀ (A : Nat → Prop) (U : State) (H H1 : Heap), (∀ a : Nat, a < H.size → ¬ A a → H1[a]? = H[a]?) → G A U H → G A U H1) ∧ (∀ (A B : Nat → Prop) (U : State) (H : Heap), (∀ q, B q → A q) → G A U H → G B U H)
def ct_G0 : ct_GT := fun _ _ _ => True
theorem ct_G0ok : ct_Gok ct_G0 := ⟨fun _ _ _ _ _ _ => trivial, fun _ _ _ _ _ _ => trivial, fun _ _ _ _ _ _ => trivial⟩
def ct_P (D : va_G) (cl : List vw_C) (tys : List (ClassId × FieldType)) (G : ct_GT) (ws : va_W) (sz : Nat) (U : State) : Prop :=
  U.heap.size = sz ∧ va_P D cl ws U.heap ∧ va_K D cl tys U ∧ va_D (fun _ => True) ws ∧ G (va_A ws sz) U U.heap
def ct_B {S : Type} (D : va_G) (cl : List vw_C) (tys1 : S → List (ClassId × FieldType)) (A : Nat → Prop) (w1 : S → va_W) (u : S) (t : State) : Prop :=
  va_P D cl (w1 u) t.heap ∧ va_K D cl (tys1 u) t ∧ va_D A (w1 u)
/-- the cells at the places is, made anew -/
def ct_sets : va_W → List Nat → va_W → va_W
  | ws, [], _ => ws
  | ws, _ :: _, [] => ws
  | ws, i :: is, c :: cs => ct_sets (ws.set i c) is cs
theorem ct_sets_out : ∀ (is : List Nat) (cs ws : va_W) (k : Nat), k ∉ is → (ct_sets ws is cs)[k]? = ws[k]?
  | [], _, _, _, _ => by rw [ct_sets]
  | _ :: _, [], _, _, _ => by rw [ct_sets]
  | i :: is, c :: cs, ws, k, h => by
    have h1 : k ≠ i := fun q => h (by rw [q]; exact List.mem_cons_self)
    have h2 : k ∉ is := fun q => h (List.mem_cons_of_mem _ q)
    show (ct_sets (ws.set i c) is cs)[k]? = ws[k]?
    rw [ct_sets_out is cs _ k h2, List.getElem?_set_ne (Ne.symm h1)]
theorem ct_sets_in : ∀ (is : List Nat) (cs ws : va_W), va_nd is = true → is.length = cs.length → (∀ i ∈ is, i < ws.length) → ∀ (j k : Nat), is[j]? = some k → (ct_sets ws is cs)[k]? = cs[j]?
  | [], _, _, _, _, _, j, k, h => by simp at h
  | _ :: _, [], _, _, h, _, _, _, _ => by simp at h
  | i :: is, c :: cs, ws, hn, hlen, hlt, j, k, h => by
    simp only [va_nd, Bool.and_eq_true, decide_eq_true_eq] at hn
    show (ct_sets (ws.set i c) is cs)[k]? = (c :: cs)[j]?
    cases j with
    | zero =>
      rw [List.getElem?_cons_zero] at h
      cases h
      rw [ct_sets_out is cs _ i hn.1, List.getElem?_cons_zero, List.getElem?_set_self (hlt i List.mem_cons_self)]
    | succ j =>
      rw [List.getElem?_cons_succ] at h
      rw [List.getElem?_cons_succ]
      exact ct_sets_in is cs (ws.set i c) hn.2 (by simpa using hlen) (fun x hx => by rw [List.length_set]; exact hlt x (List.mem_cons_of_mem _ hx)) j k h
/-- what a callee left of its cells, put back at their places; all else is as it was -/
theorem ct_put {D : va_G} {cl : List vw_C} {ws wc w1 : va_W} {A : Nat → Prop} {H H1 : Heap} (hP : va_P D cl ws H) (hD : va_D A ws) (isC : List Nat) (hC : isC.map (fun i => ws[i]?) = wc.map some) (hn : va_nd isC = true) (hs : w1.map Prod.fst = wc.map Prod.fst)
    (hk : ∀ q : Nat, q < H.size → ¬ va_A wc H.size q → H1[q]? = H[q]?) (hP1 : va_P D cl w1 H1) : va_P D cl (ct_sets ws isC w1) H1 ∧ va_D A (ct_sets ws isC w1) := by
  have hat : ∀ (j i : Nat), isC[j]? = some i → ∃ q, wc[j]? = some q ∧ ws[i]? = some q := by
    intro j i h
    have h1 : (isC.map (fun i => ws[i]?))[j]? = some (ws[i]?) := by rw [List.getElem?_map, h]; rfl
    rw [hC, List.getElem?_map] at h1
    cases hq : wc[j]? with
    | none => rw [hq] at h1; simp at h1
    | some q =>
      rw [hq] at h1
      simp only [Option.map_some, Option.some.injEq] at h1
      exact ⟨q, rfl, h1.symm⟩
  have hback : ∀ (j : Nat) (q : Nat × va_E), wc[j]? = some q → ∃ i, isC[j]? = some i ∧ ws[i]? = some q := by
    intro j q h
    have h1 : (wc.map some)[j]? = some (some q) := by rw [List.getElem?_map, h]; rfl
    rw [← hC, List.getElem?_map] at h1
    cases hi : isC[j]? with
    | none => rw [hi] at h1; simp at h1
    | some i =>
      rw [hi] at h1
      simp only [Option.map_some, Option.some.injEq] at h1
      exact ⟨i, rfl, h1⟩
  have hl1 : isC.length = wc.length := by simpa using congrArg List.length hC
  have hl2 : isC.length = w1.length := by rw [hl1]; simpa using (congrArg List.length hs).symm
  have hlt : ∀ i ∈ isC, i < ws.length := by
    intro i hi
    obtain ⟨j, hj⟩ := List.mem_iff_getElem?.mp hi
    obtain ⟨q, -, h2⟩ := hat j i hj
    exact (List.getElem?_eq_some_iff.mp h2).1
  have key : ∀ (k : Nat) (q : Nat × va_E), (ct_sets ws isC w1)[k]? = some q → (k ∉ isC ∧ ws[k]? = some q) ∨ ∃ (j : Nat) (q2 : Nat × va_E), isC[j]? = some k ∧ w1[j]? = some q ∧ ws[k]? = some q2 ∧ q2.1 = q.1 := by
    intro k q h
    by_cases hm : k ∈ isC
    · obtain ⟨j, hj⟩ := List.mem_iff_getElem?.mp hm
      rw [ct_sets_in isC w1 ws hn hl2 hlt j k hj] at h
      obtain ⟨q2, h1, h2⟩ := hat j k hj
      refine Or.inr ⟨j, q2, hj, h, h2, ?_⟩
      have h3 : (w1.map Prod.fst)[j]? = some q.1 := by rw [List.getElem?_map, h]; rfl
      rw [hs, List.getElem?_map, h1] at h3
      simpa using h3
    · rw [ct_sets_out isC w1 ws k hm] at h
      exact Or.inl ⟨hm, h⟩
  refine ⟨fun k q h => ?_, fun i j p q h1 h2 e => ?_, fun k q h => ?_⟩
  · rcases key k q h with ⟨hm, hw⟩ | ⟨j, q2, hj, hw, -, -⟩
    · refine (hP k q hw).kept (hk q.1 (hP k q hw).lt ?_)
      rintro (⟨k2, e2, h2⟩ | h2)
      · obtain ⟨i, hi, hwi⟩ := hback k2 _ h2
        have := hD.1 i k _ _ hwi hw rfl
        subst this
        exact hm (List.mem_of_getElem? hi)
      · exact absurd (hP k q hw).lt (Nat.not_lt.mpr h2)
    · exact hP1 j q hw
  · have a1 : ∃ p2, ws[i]? = some p2 ∧ p2.1 = p.1 := by
      rcases key i p h1 with ⟨-, hw⟩ | ⟨-, p2, -, -, hw, e2⟩
      · exact ⟨p, hw, rfl⟩
      · exact ⟨p2, hw, e2⟩
    have a2 : ∃ q2, ws[j]? = some q2 ∧ q2.1 = q.1 := by
      rcases key j q h2 with ⟨-, hw⟩ | ⟨-, q2, -, -, hw, e2⟩
      · exact ⟨q, hw, rfl⟩
      · exact ⟨q2, hw, e2⟩
    obtain ⟨p2, hp, ep⟩ := a1
    obtain ⟨q2, hq, eq⟩ := a2
    exact hD.1 i j p2 q2 hp hq (by rw [ep, eq]; exact e)
  · rcases key k q h with ⟨-, hw⟩ | ⟨-, q2, -, -, hw, e2⟩
    · exact hD.2 k q hw
    · rw [← e2]; exact hD.2 k q2 hw
section CTa
variable {p : Program} {l : Launch} {e : Env} {R : Room} {s : State} {m : MethodId} {args : Array Value} {below : List Frame} {meth : Method} {c : Code} {H : Heap} {locs : List Loc} {cells slots : Nat} {Q : State → Prop}
variable {D : va_G} {cl : List vw_C} {tys tysC : List (ClassId × FieldType)} {G : ct_GT} {ws wc wr : va_W} {A : Nat → Prop} {av : List Value} {sz : Nat}
theorem ct_blind (hg : ct_Gok G) : FrameBlind (va_Pc av (ct_P D cl tys G ws sz)) := by
  intro a U g mk q
  obtain ⟨q0, q1, qP, qK, qD, qG⟩ := q
  exact ⟨q0, q1, qP, va_K.moved (u := U) (U := U.calling g mk a) (Vm.Alike.refl U.vm) qK, qD, hg.1 _ U (U.calling g mk a) _ (Or.inl rfl) qG⟩
/-- what a callee asks of its start, out of the caller's world -/
theorem ct_pre (hg : ct_Gok G) (hG : G A s s.heap) (hK : va_K D cl tys s) (hP : va_P D cl ws H) (hD : va_D A ws) (hS : va_S A s.heap H locs) (hA : ∀ q, s.heap.size ≤ q → A q)
    (isC : List Nat) (hC : isC.map (fun i => ws[i]?) = wc.map some) (hn : va_nd isC = true) (isT : List Nat) (hT : isT.filterMap (fun i => tys[i]?) = tysC) :
    PreS s H (va_Pc av (ct_P D cl tysC G wc H.size)) av := by
  refine ⟨ct_blind hg, fun U hU hW => ⟨rfl, by rw [hU], by rw [hU]; exact hP.sub isC (ct_fm hC), va_K.moved hW.alike (hK.sub isT hT), (hD.sub isC hn hC).weaken (fun _ _ _ _ => trivial), ?_⟩⟩
  rw [hU]
  exact hg.2.2 A _ U H (va_free hD hS hA isC hC) (hg.1 A s U H (Or.inr hW) (hg.2.1 A s s.heap H (fun a h1 h2 => hS.2.1 a h1 h2) hG))
theorem ct_preV {C : String} {b : Addr} {As : List Value} (hg : ct_Gok G) (hG : G A s s.heap) (hK : va_K D cl tys s) (hP : va_P D cl ws H) (hD : va_D A ws) (hS : va_S A s.heap H locs) (hA : ∀ q, s.heap.size ≤ q → A q)
    (isC : List Nat) (hC : isC.map (fun i => ws[i]?) = wc.map some) (hn : va_nd isC = true) (isT : List Nat) (hT : isT.filterMap (fun i => tys[i]?) = tysC)
    (q0 ci : Nat) {r : vw_C} {fs : List Value} (hc : cl[ci]? = some r) (hr : r.1 = C) (he : ws[q0]? = some (b, .inr (ci, fs))) :
    PreV s H C b (va_Pc (.ref b :: As) (ct_P D cl tysC G wc H.size)) As := by
  have h := ct_pre (av := .ref b :: As) hg hG hK hP hD hS hA isC hC hn isT hT
  subst hr
  exact ⟨h.1, va_recv hK hP hc he, h.2⟩
variable {mc ms : Nat} {H0 : Heap} {a : Array Value} {pc : Nat} {ls : Array Slot} {st0 rest : List Value} {S : Type} {w1 : S → va_W} {tys1 : S → List (ClassId × FieldType)}
theorem ct_callv {post : S → Prop} (hr : va_Run p l e R s m args below meth c H locs cells slots mc ms (F0 m pc ls st0) rest (va_Qv post (ct_B D cl tys1 (va_A wc H.size) w1) (va_A wc H.size) a) (va_A wc H.size))
    (hP : va_P D cl ws H) (hD : va_D A ws) (hS : va_S A H0 H locs) (hA : ∀ q, H0.size ≤ q → A q) (isC isR : List Nat) (hC : isC.map (fun i => ws[i]?) = wc.map some) (hR : isR.map (fun i => ws[i]?) = wr.map some) (hn : va_nd isR = true) (hdis : ∀ i ∈ isR, i ∉ isC)
    (kk : ∀ (u : S) (H1 : Heap) (locs1 : List Loc), post u → va_K D cl (tys1 u) s → va_P D cl (wr ++ w1 u) H1 → va_D A (wr ++ w1 u) → va_S A H0 H1 locs1 → W p l e R s m args below meth c H1 locs1 (cells + mc) (slots + ms) Q (F0 m (pc + 3) ls rest)) :
    W p l e R s m args below meth c H locs cells slots Q (F0 m pc ls st0) := by
  have hF := va_free hD hS hA isC hC
  refine va_callv hr hS (fun q _ h => hF q h) hF (fun u t H1 locs1 ht hvm hw hB hz hk hS1 => ?_)
  obtain ⟨hP1, hK1, hD1⟩ := hB
  rw [ht] at hP1
  obtain ⟨hP2, hD2⟩ := va_join hP hD isC isR hC hR hn hdis hk hF hP1 hD1
  exact kk u H1 locs1 hw (va_K.moved hvm.symm hK1) hP2 hD2 hS1
theorem ct_calli {post : Int32 → S → Prop} (hr : va_Run p l e R s m args below meth c H locs cells slots mc ms (F0 m pc ls st0) rest (va_Qi post (ct_B D cl tys1 (va_A wc H.size) w1) (va_A wc H.size) a) (va_A wc H.size))
    (hP : va_P D cl ws H) (hD : va_D A ws) (hS : va_S A H0 H locs) (hA : ∀ q, H0.size ≤ q → A q) (isC isR : List Nat) (hC : isC.map (fun i => ws[i]?) = wc.map some) (hR : isR.map (fun i => ws[i]?) = wr.map some) (hn : va_nd isR = true) (hdis : ∀ i ∈ isR, i ∉ isC)
    (kk : ∀ (r : Int32) (u : S) (H1 : Heap) (locs1 : List Loc), post r u → va_K D cl (tys1 u) s → va_P D cl (wr ++ w1 u) H1 → va_D A (wr ++ w1 u) → va_S A H0 H1 locs1 → W p l e R s m args below meth c H1 locs1 (cells + mc) (slots + ms) Q (F0 m (pc + 3) ls (.int r :: rest))) :
    W p l e R s m args below meth c H locs cells slots Q (F0 m pc ls st0) := by
  have hF := va_free hD hS hA isC hC
  refine va_calli hr hS (fun q _ h => hF q h) hF (fun r u t H1 locs1 ht hvm hw hB hz hk hS1 => ?_)
  obtain ⟨hP1, hK1, hD1⟩ := hB
  rw [ht] at hP1
  obtain ⟨hP2, hD2⟩ := va_join hP hD isC isR hC hR hn hdis hk hF hP1 hD1
  exact kk r u H1 locs1 hw (va_K.moved hvm.symm hK1) hP2 hD2 hS1
theorem ct_calll {post : Int64 → S → Prop} (hr : va_Run p l e R s m args below meth c H locs cells slots mc ms (F0 m pc ls st0) rest (va_Ql post (ct_B D cl tys1 (va_A wc H.size) w1) (va_A wc H.size) a) (va_A wc H.size))
    (hP : va_P D cl ws H) (hD : va_D A ws) (hS : va_S A H0 H locs) (hA : ∀ q, H0.size ≤ q → A q) (isC isR : List Nat) (hC : isC.map (fun i => ws[i]?) = wc.map some) (hR : isR.map (fun i => ws[i]?) = wr.map some) (hn : va_nd isR = true) (hdis : ∀ i ∈ isR, i ∉ isC)
    (kk : ∀ (r : Int64) (u : S) (H1 : Heap) (locs1 : List Loc), post r u → va_K D cl (tys1 u) s → va_P D cl (wr ++ w1 u) H1 → va_D A (wr ++ w1 u) → va_S A H0 H1 locs1 → W p l e R s m args below meth c H1 locs1 (cells + mc) (slots + ms) Q (F0 m (pc + 3) ls (.long r :: rest))) :
    W p l e R s m args below meth c H locs cells slots Q (F0 m pc ls st0) := by
  have hF := va_free hD hS hA isC hC
  refine va_calll hr hS (fun q _ h => hF q h) hF (fun r u t H1 locs1 ht hvm hw hB hz hk hS1 => ?_)
  obtain ⟨hP1, hK1, hD1⟩ := hB
  rw [ht] at hP1
  obtain ⟨hP2, hD2⟩ := va_join hP hD isC isR hC hR hn hdis hk hF hP1 hD1
  exact kk r u H1 locs1 hw (va_K.moved hvm.symm hK1) hP2 hD2 hS1
theorem cs_callv {post : S → Prop} (hr : va_Run p l e R s m args below meth c H locs cells slots mc ms (F0 m pc ls st0) rest (va_Qv post (ct_B D cl tys1 (va_A wc H.size) w1) (va_A wc H.size) a) (va_A wc H.size))
    (hP : va_P D cl ws H) (hD : va_D A ws) (hS : va_S A H0 H locs) (hA : ∀ q, H0.size ≤ q → A q) (isC : List Nat) (hC : isC.map (fun i => ws[i]?) = wc.map some) (hn : va_nd isC = true) (hs : ∀ u, (w1 u).map Prod.fst = wc.map Prod.fst)
    (kk : ∀ (u : S) (H1 : Heap) (locs1 : List Loc), post u → va_P D cl (ct_sets ws isC (w1 u)) H1 → va_D A (ct_sets ws isC (w1 u)) → va_S A H0 H1 locs1 → W p l e R s m args below meth c H1 locs1 (cells + mc) (slots + ms) Q (F0 m (pc + 3) ls rest)) :
    W p l e R s m args below meth c H locs cells slots Q (F0 m pc ls st0) := by
  have hF := va_free hD hS hA isC hC
  refine va_callv hr hS (fun q _ h => hF q h) hF (fun u t H1 locs1 ht hvm hw hB hz hk hS1 => ?_)
  obtain ⟨hP1, hK1, hD1⟩ := hB
  rw [ht] at hP1
  obtain ⟨hP2, hD2⟩ := ct_put hP hD isC hC hn (hs u) hk hP1
  exact kk u H1 locs1 hw hP2 hD2 hS1
theorem cs_calli {post : Int32 → S → Prop} (hr : va_Run p l e R s m args below meth c H locs cells slots mc ms (F0 m pc ls st0) rest (va_Qi post (ct_B D cl tys1 (va_A wc H.size) w1) (va_A wc H.size) a) (va_A wc H.size))
    (hP : va_P D cl ws H) (hD : va_D A ws) (hS : va_S A H0 H locs) (hA : ∀ q, H0.size ≤ q → A q) (isC : List Nat) (hC : isC.map (fun i => ws[i]?) = wc.map some) (hn : va_nd isC = true) (hs : ∀ u, (w1 u).map Prod.fst = wc.map Prod.fst)
    (kk : ∀ (r : Int32) (u : S) (H1 : Heap) (locs1 : List Loc), post r u → va_P D cl (ct_sets ws isC (w1 u)) H1 → va_D A (ct_sets ws isC (w1 u)) → va_S A H0 H1 locs1 → W p l e R s m args below meth c H1 locs1 (cells + mc) (slots + ms) Q (F0 m (pc + 3) ls (.int r :: rest))) :
    W p l e R s m args below meth c H locs cells slots Q (F0 m pc ls st0) := by
  have hF := va_free hD hS hA isC hC
  refine va_calli hr hS (fun q _ h => hF q h) hF (fun r u t H1 locs1 ht hvm hw hB hz hk hS1 => ?_)
  obtain ⟨hP1, hK1, hD1⟩ := hB
  rw [ht] at hP1
  obtain ⟨hP2, hD2⟩ := ct_put hP hD isC hC hn (hs u) hk hP1
  exact kk r u H1 locs1 hw hP2 hD2 hS1
theorem cs_calll {post : Int64 → S → Prop} (hr : va_Run p l e R s m args below meth c H locs cells slots mc ms (F0 m pc ls st0) rest (va_Ql post (ct_B D cl tys1 (va_A wc H.size) w1) (va_A wc H.size) a) (va_A wc H.size))
    (hP : va_P D cl ws H) (hD : va_D A ws) (hS : va_S A H0 H locs) (hA : ∀ q, H0.size ≤ q → A q) (isC : List Nat) (hC : isC.map (fun i => ws[i]?) = wc.map some) (hn : va_nd isC = true) (hs : ∀ u, (w1 u).map Prod.fst = wc.map Prod.fst)
    (kk : ∀ (r : Int64) (u : S) (H1 : Heap) (locs1 : List Loc), post r u → va_P D cl (ct_sets ws isC (w1 u)) H1 → va_D A (ct_sets ws isC (w1 u)) → va_S A H0 H1 locs1 → W p l e R s m args below meth c H1 locs1 (cells + mc) (slots + ms) Q (F0 m (pc + 3) ls (.long r :: rest))) :
    W p l e R s m args below meth c H locs cells slots Q (F0 m pc ls st0) := by
  have hF := va_free hD hS hA isC hC
  refine va_calll hr hS (fun q _ h => hF q h) hF (fun r u t H1 locs1 ht hvm hw hB hz hk hS1 => ?_)
  obtain ⟨hP1, hK1, hD1⟩ := hB
  rw [ht] at hP1
  obtain ⟨hP2, hD2⟩ := ct_put hP hD isC hC hn (hs u) hk hP1
  exact kk r u H1 locs1 hw hP2 hD2 hS1
end CTa
/-- what a body knows of its method -/
def ct_F (p : Program) (s : State) (m : MethodId) (meth : Method) (c : Code) (cc : ByteArray) (ret : Option FieldType) (maxL : Nat) (wds : List Cond) (y : MethodName) (args : Array Value) : Prop :=
  p.tables.exec = Jvm.exec ∧ c.code = cc ∧ meth.sig.returnType = ret ∧ c.maxLocals = maxL ∧ (∀ w ∈ wds, w.before args s = true) ∧ s.vm.findClass y.cls = some m.cls ∧ meth.locks = false ∧ meth.name = y.name
section CTb
variable {l : Launch} {y : MethodName} {wds wds' : List Cond} {rm : Room} {D : va_G} {cl : List vw_C} {tys : List (ClassId × FieldType)} {G : ct_GT} {av : List Value} {ws : va_W} {sz : Nat} {S : Type} {tys1 : S → List (ClassId × FieldType)} {w1 : S → va_W} {mc ms : Nat} {cc : ByteArray} {maxL : Nat} {ret : Option FieldType}
abbrev ct_V (l : Launch) (y : MethodName) (wds : List Cond) (rm : Room) (D : va_G) (cl : List vw_C) (tys : List (ClassId × FieldType)) (G : ct_GT) (av : List Value) (ws : va_W) (sz : Nat) {S : Type} (post : S → Prop) (tys1 : S → List (ClassId × FieldType)) (w1 : S → va_W) (mc ms : Nat) : Prop :=
  Met l y wds rm (va_Pc av (ct_P D cl tys G ws sz)) (va_Qv post (ct_B D cl tys1 (va_A ws sz) w1) (va_A ws sz)) mc ms (va_A ws sz)
abbrev ct_I (l : Launch) (y : MethodName) (wds : List Cond) (rm : Room) (D : va_G) (cl : List vw_C) (tys : List (ClassId × FieldType)) (G : ct_GT) (av : List Value) (ws : va_W) (sz : Nat) {S : Type} (post : Int32 → S → Prop) (tys1 : S → List (ClassId × FieldType)) (w1 : S → va_W) (mc ms : Nat) : Prop :=
  Met l y wds rm (va_Pc av (ct_P D cl tys G ws sz)) (va_Qi post (ct_B D cl tys1 (va_A ws sz) w1) (va_A ws sz)) mc ms (va_A ws sz)
abbrev ct_L (l : Launch) (y : MethodName) (wds : List Cond) (rm : Room) (D : va_G) (cl : List vw_C) (tys : List (ClassId × FieldType)) (G : ct_GT) (av : List Value) (ws : va_W) (sz : Nat) {S : Type} (post : Int64 → S → Prop) (tys1 : S → List (ClassId × FieldType)) (w1 : S → va_W) (mc ms : Nat) : Prop :=
  Met l y wds rm (va_Pc av (ct_P D cl tys G ws sz)) (va_Ql post (ct_B D cl tys1 (va_A ws sz) w1) (va_A ws sz)) mc ms (va_A ws sz)
/-- a method's opening: its facts, its cells in A, its locals -/
theorem ct_of {Qf : (Nat → Prop) → Array Value → State → Outcome → State → Prop} (hy : plainName y.cls = true) (hw : wds = Cond.code y cc maxL ret :: wds') (hlen : (lg_sl av).length ≤ maxL)
    (body : ∀ (p : Program) (e : Env) (s : State) (m : MethodId) (below : List Frame) (meth : Method) (c : Code) (A : Nat → Prop) (ls : Array Slot), ct_F p s m meth c cc ret maxL wds y av.toArray → (∀ q, s.heap.size ≤ q → A q) → va_P D cl ws s.heap → va_K D cl tys s → va_D A ws → G A s s.heap → va_S A s.heap s.heap [] → lv_has ls maxL (lv_args 0 av) →
      W p l e rm s m av.toArray below meth c s.heap [] 0 0 (MQ below (Qf A) av.toArray s mc ms A) (F0 m 0 ls [])) :
    Met l y wds rm (va_Pc av (ct_P D cl tys G ws sz)) (Qf (va_A ws sz)) mc ms (va_A ws sz) := by
  refine Met.ofW (cc := cc) (maxL := maxL) (ret := ret) hy hw ?_
  intro p e s m args below meth c s₁ B hml hv
  obtain ⟨rfl, hsz, hP, hK, hD0, hG⟩ := hv
  subst hsz
  have hl := lv_entry av (n := maxL) hlen
  rw [lg_entry_eq]
  exact body p e s m below meth c (va_A ws s.heap.size) _ ⟨B.exec, B.bytes, B.returns, hml, atoms_spec (ws := wds) B.pre, findClass_of_methodNamed B.named, B.notSynchronized, (name_of_methodNamed B.named B.method).1⟩ (fun q h => Or.inr h) hP hK (hD0.self (sz := s.heap.size)) hG va_S.rf hl
/-- a JDK method's opening: its facts, its cells in A, its locals -/
theorem ct_ofF {Qf : (Nat → Prop) → Array Value → State → Outcome → State → Prop} (hy : plainFor y = true) (hw : wds = Cond.code y cc maxL ret :: wds') (hlen : (lg_sl av).length ≤ maxL)
    (body : ∀ (p : Program) (e : Env) (s : State) (m : MethodId) (below : List Frame) (meth : Method) (c : Code) (A : Nat → Prop) (ls : Array Slot), ct_F p s m meth c cc ret maxL wds y av.toArray → (∀ q, s.heap.size ≤ q → A q) → va_P D cl ws s.heap → va_K D cl tys s → va_D A ws → G A s s.heap → va_S A s.heap s.heap [] → lv_has ls maxL (lv_args 0 av) →
      W p l e rm s m av.toArray below meth c s.heap [] 0 0 (MQ below (Qf A) av.toArray s mc ms A) (F0 m 0 ls [])) :
    Met l y wds rm (va_Pc av (ct_P D cl tys G ws sz)) (Qf (va_A ws sz)) mc ms (va_A ws sz) := by
  refine va_MetF (cc := cc) (maxL := maxL) (ret := ret) hy hw ?_
  intro p e s m args below meth c s₁ B hml hv
  obtain ⟨rfl, hsz, hP, hK, hD0, hG⟩ := hv
  subst hsz
  have hl := lv_entry av (n := maxL) hlen
  rw [lg_entry_eq]
  exact body p e s m below meth c (va_A ws s.heap.size) _ ⟨B.exec, B.bytes, B.returns, hml, atoms_spec (ws := wds) B.pre, findClass_of_methodNamed B.named, B.notSynchronized, (name_of_methodNamed B.named B.method).1⟩ (fun q h => Or.inr h) hP hK (hD0.self (sz := s.heap.size)) hG va_S.rf hl
end CTb
section CTc
variable {p : Program} {l : Launch} {e : Env} {R : Room} {s : State} {m : MethodId} {args : Array Value} {below : List Frame} {meth : Method} {c : Code} {H : Heap} {locs : List Loc} {cells slots : Nat}
variable {D : va_G} {cl : List vw_C} {A : Nat → Prop} {S : Type} {tys1 : S → List (ClassId × FieldType)} {w1 : S → va_W} {cc : ByteArray} {maxL : Nat} {wds : List Cond} {y : MethodName} {pc : Nat} {ls : Array Slot}
theorem ct_vret {post : S → Prop} (hF : ct_F p s m meth c cc none maxL wds y args) (hdg : decode cc pc = .ok (.return_, 1)) (u : S) (hp : post u) (hP : va_P D cl (w1 u) H) (hD : va_D A (w1 u)) (hK : va_K D cl (tys1 u) s) (hS : va_S A s.heap H locs) :
    W p l e R s m args below meth c H locs cells slots (MQ below (va_Qv post (ct_B D cl tys1 A w1) A) args s cells slots A) (F0 m pc ls []) := by
  obtain ⟨hx, hb, hr, -, -, -, hlocks, -⟩ := hF
  exact W.vret hx hb hr (fun t ht hW => ⟨⟨u, rfl, hp, by rw [ht]; exact hP, va_K.moved hW.alike hK, hD⟩, hS.F ht⟩) hS.2.2 hdg
theorem ct_iret {post : Int32 → S → Prop} {v : Int32} (hF : ct_F p s m meth c cc (some .int) maxL wds y args) (hdg : decode cc pc = .ok (.ireturn, 1)) (u : S) (hp : post v u) (hP : va_P D cl (w1 u) H) (hD : va_D A (w1 u)) (hK : va_K D cl (tys1 u) s) (hS : va_S A s.heap H locs) :
    W p l e R s m args below meth c H locs cells slots (MQ below (va_Qi post (ct_B D cl tys1 A w1) A) args s cells slots A) (F0 m pc ls [.int v]) := by
  obtain ⟨hx, hb, hr, -, -, -, hlocks, -⟩ := hF
  exact W.iret hx hb hr (fun t ht hW => ⟨⟨v, u, rfl, hp, by rw [ht]; exact hP, va_K.moved hW.alike hK, hD⟩, hS.F ht⟩) hS.2.2 hdg
theorem ct_zret {post : Int32 → S → Prop} {v : Int32} (hF : ct_F p s m meth c cc (some .boolean) maxL wds y args) (hdg : decode cc pc = .ok (.ireturn, 1)) (hn : narrow .boolean (.int v) = .int v) (u : S) (hp : post v u) (hP : va_P D cl (w1 u) H) (hD : va_D A (w1 u)) (hK : va_K D cl (tys1 u) s) (hS : va_S A s.heap H locs) :
    W p l e R s m args below meth c H locs cells slots (MQ below (va_Qi post (ct_B D cl tys1 A w1) A) args s cells slots A) (F0 m pc ls [.int v]) := by
  obtain ⟨hx, hb, hr, -, -, -, hlocks, -⟩ := hF
  exact W.zret hx hb hr hn (fun t ht hW => ⟨⟨v, u, rfl, hp, by rw [ht]; exact hP, va_K.moved hW.alike hK, hD⟩, hS.F ht⟩) hS.2.2 hdg
theorem ct_lret {post : Int64 → S → Prop} {v : Int64} (hF : ct_F p s m meth c cc (some .long) maxL wds y args) (hdg : decode cc pc = .ok (.lreturn, 1)) (u : S) (hp : post v u) (hP : va_P D cl (w1 u) H) (hD : va_D A (w1 u)) (hK : va_K D cl (tys1 u) s) (hS : va_S A s.heap H locs) :
    W p l e R s m args below meth c H locs cells slots (MQ below (va_Ql post (ct_B D cl tys1 A w1) A) args s cells slots A) (F0 m pc ls [.long v]) := by
  obtain ⟨hx, hb, hr, -, -, -, hlocks, -⟩ := hF
  exact W.lret hx hb hr (fun t ht hW => ⟨⟨v, u, rfl, hp, by rw [ht]; exact hP, va_K.moved hW.alike hK, hD⟩, hS.F ht⟩) hS.2.2 hdg
end CTc
/-- comparisons of longs, as branches ask them -/
theorem ct_cmp (x y : Int64) : (lg_cmp x y = 1 ∧ y < x) ∨ (lg_cmp x y = 0 ∧ x = y) ∨ (lg_cmp x y = -1 ∧ x < y) := by
  unfold lg_cmp
  by_cases h1 : x > y
  · exact Or.inl ⟨by rw [if_pos h1], h1⟩
  · by_cases h2 : x = y
    · exact Or.inr (Or.inl ⟨by rw [if_neg h1, if_pos h2], h2⟩)
    · refine Or.inr (Or.inr ⟨by rw [if_neg h1, if_neg h2], ?_⟩)
      have h3 : ¬ y.toInt < x.toInt := fun h => h1 (Int64.lt_iff_toInt_lt.mpr h)
      have h4 : x.toInt ≠ y.toInt := fun h => h2 (Int64.toInt_inj.mp h)
      exact Int64.lt_iff_toInt_lt.mpr (by omega)
theorem ct_cmp_lt {x y : Int64} : lg_cmp x y < 0 ↔ x < y := by
  rcases ct_cmp x y with ⟨h, g⟩ | ⟨h, g⟩ | ⟨h, g⟩ <;> rw [h] <;> rw [Int64.lt_iff_toInt_lt] at *
  · exact ⟨fun q => absurd q (by decide), fun q => by omega⟩
  · subst g; exact ⟨fun q => absurd q (by decide), fun q => by omega⟩
  · exact ⟨fun _ => g, fun _ => by decide⟩
theorem ct_cmp_gt {x y : Int64} : 0 < lg_cmp x y ↔ y < x := by
  rcases ct_cmp x y with ⟨h, g⟩ | ⟨h, g⟩ | ⟨h, g⟩ <;> rw [h] <;> rw [Int64.lt_iff_toInt_lt] at *
  · exact ⟨fun _ => g, fun _ => by decide⟩
  · subst g; exact ⟨fun q => absurd q (by decide), fun q => by omega⟩
  · exact ⟨fun q => absurd q (by decide), fun q => by omega⟩
theorem ct_cmp_eq {x y : Int64} : lg_cmp x y = 0 ↔ x = y := by
  rcases ct_cmp x y with ⟨h, g⟩ | ⟨h, g⟩ | ⟨h, g⟩ <;> rw [h]
  · exact ⟨fun q => absurd q (by decide), fun q => by subst q; rw [Int64.lt_iff_toInt_lt] at g; omega⟩
  · exact ⟨fun _ => g, fun _ => rfl⟩
  · exact ⟨fun q => absurd q (by decide), fun q => by subst q; rw [Int64.lt_iff_toInt_lt] at g; omega⟩
theorem ct_cmp_le {x y : Int64} : lg_cmp x y ≤ 0 ↔ x ≤ y := by
  rcases ct_cmp x y with ⟨h, g⟩ | ⟨h, g⟩ | ⟨h, g⟩ <;> rw [h] <;> rw [Int64.le_iff_toInt_le]
  · rw [Int64.lt_iff_toInt_lt] at g; exact ⟨fun q => absurd q (by decide), fun q => by omega⟩
  · subst g; exact ⟨fun _ => by omega, fun _ => by decide⟩
  · rw [Int64.lt_iff_toInt_lt] at g; exact ⟨fun _ => by omega, fun _ => by decide⟩
theorem ct_cmp_ge {x y : Int64} : 0 ≤ lg_cmp x y ↔ y ≤ x := by
  rcases ct_cmp x y with ⟨h, g⟩ | ⟨h, g⟩ | ⟨h, g⟩ <;> rw [h] <;> rw [Int64.le_iff_toInt_le]
  · rw [Int64.lt_iff_toInt_lt] at g; exact ⟨fun _ => by omega, fun _ => by decide⟩
  · subst g; exact ⟨fun _ => by omega, fun _ => by decide⟩
  · rw [Int64.lt_iff_toInt_lt] at g; exact ⟨fun q => absurd q (by decide), fun q => by omega⟩
section CTd
variable {p : Program} {l : Launch} {e : Env} {R : Room} {s : State} {m : MethodId} {args : Array Value} {below : List Frame} {meth : Method} {c : Code} {H : Heap} {locs : List Loc} {cells slots : Nat} {Q : State → Prop} {cc : ByteArray} {x y : Int64} {off : Int} {tgt pc : Nat} {ls : Array Slot} {rest : List Value}
theorem ct_jlt (hexec : p.tables.exec = Jvm.exec) (hb : c.code = cc) (hd : decode cc pc = .ok (.lcmp, 1)) (hd2 : decode cc (pc + 1) = .ok (.ifCond .lt off, 3)) (ht : ((pc + 1 : Nat) : Int) + off = (tgt : Int)) (kt : x < y → W p l e R s m args below meth c H locs cells slots Q (F0 m tgt ls rest)) (kf : ¬ x < y → W p l e R s m args below meth c H locs cells slots Q (F0 m (pc + 4) ls rest)) : W p l e R s m args below meth c H locs cells slots Q (F0 m pc ls (.long y :: .long x :: rest)) :=
  W.lcmp hexec hb hd (lv_if_lt hexec hb hd2 ht (fun h => kt (ct_cmp_lt.mp h)) (fun h => kf (fun q => h (ct_cmp_lt.mpr q))))
theorem ct_jge (hexec : p.tables.exec = Jvm.exec) (hb : c.code = cc) (hd : decode cc pc = .ok (.lcmp, 1)) (hd2 : decode cc (pc + 1) = .ok (.ifCond .ge off, 3)) (ht : ((pc + 1 : Nat) : Int) + off = (tgt : Int)) (kt : y ≤ x → W p l e R s m args below meth c H locs cells slots Q (F0 m tgt ls rest)) (kf : ¬ y ≤ x → W p l e R s m args below meth c H locs cells slots Q (F0 m (pc + 4) ls rest)) : W p l e R s m args below meth c H locs cells slots Q (F0 m pc ls (.long y :: .long x :: rest)) :=
  W.lcmp hexec hb hd (lv_if_ge hexec hb hd2 ht (fun h => kt (ct_cmp_ge.mp h)) (fun h => kf (fun q => h (ct_cmp_ge.mpr q))))
theorem ct_jle (hexec : p.tables.exec = Jvm.exec) (hb : c.code = cc) (hd : decode cc pc = .ok (.lcmp, 1)) (hd2 : decode cc (pc + 1) = .ok (.ifCond .le off, 3)) (ht : ((pc + 1 : Nat) : Int) + off = (tgt : Int)) (kt : x ≤ y → W p l e R s m args below meth c H locs cells slots Q (F0 m tgt ls rest)) (kf : ¬ x ≤ y → W p l e R s m args below meth c H locs cells slots Q (F0 m (pc + 4) ls rest)) : W p l e R s m args below meth c H locs cells slots Q (F0 m pc ls (.long y :: .long x :: rest)) :=
  W.lcmp hexec hb hd (lv_if_le hexec hb hd2 ht (fun h => kt (ct_cmp_le.mp h)) (fun h => kf (fun q => h (ct_cmp_le.mpr q))))
theorem ct_jgt (hexec : p.tables.exec = Jvm.exec) (hb : c.code = cc) (hd : decode cc pc = .ok (.lcmp, 1)) (hd2 : decode cc (pc + 1) = .ok (.ifCond .gt off, 3)) (ht : ((pc + 1 : Nat) : Int) + off = (tgt : Int)) (kt : y < x → W p l e R s m args below meth c H locs cells slots Q (F0 m tgt ls rest)) (kf : ¬ y < x → W p l e R s m args below meth c H locs cells slots Q (F0 m (pc + 4) ls rest)) : W p l e R s m args below meth c H locs cells slots Q (F0 m pc ls (.long y :: .long x :: rest)) :=
  W.lcmp hexec hb hd (lv_if_gt hexec hb hd2 ht (fun h => kt (ct_cmp_gt.mp h)) (fun h => kf (fun q => h (ct_cmp_gt.mpr q))))
theorem ct_jeq (hexec : p.tables.exec = Jvm.exec) (hb : c.code = cc) (hd : decode cc pc = .ok (.lcmp, 1)) (hd2 : decode cc (pc + 1) = .ok (.ifCond .eq off, 3)) (ht : ((pc + 1 : Nat) : Int) + off = (tgt : Int)) (kt : x = y → W p l e R s m args below meth c H locs cells slots Q (F0 m tgt ls rest)) (kf : ¬ x = y → W p l e R s m args below meth c H locs cells slots Q (F0 m (pc + 4) ls rest)) : W p l e R s m args below meth c H locs cells slots Q (F0 m pc ls (.long y :: .long x :: rest)) :=
  W.lcmp hexec hb hd (lv_if_eq hexec hb hd2 ht (fun h => kt (ct_cmp_eq.mp h)) (fun h => kf (fun q => h (ct_cmp_eq.mpr q))))
theorem ct_jne (hexec : p.tables.exec = Jvm.exec) (hb : c.code = cc) (hd : decode cc pc = .ok (.lcmp, 1)) (hd2 : decode cc (pc + 1) = .ok (.ifCond .ne off, 3)) (ht : ((pc + 1 : Nat) : Int) + off = (tgt : Int)) (kt : ¬ x = y → W p l e R s m args below meth c H locs cells slots Q (F0 m tgt ls rest)) (kf : x = y → W p l e R s m args below meth c H locs cells slots Q (F0 m (pc + 4) ls rest)) : W p l e R s m args below meth c H locs cells slots Q (F0 m pc ls (.long y :: .long x :: rest)) :=
  W.lcmp hexec hb hd (lv_if_ne hexec hb hd2 ht (fun h => kt (fun q => h (ct_cmp_eq.mpr q))) (fun h => kf (ct_cmp_eq.mp h)))
/-- a road that several branches come to -/
theorem ct_cut {α : Type} {P : α → Prop} {gz : α → JFrame} {g : JFrame} (hj : ∀ z, P z → W p l e R s m args below meth c H locs cells slots Q (gz z)) (k : (∀ z, P z → W p l e R s m args below meth c H locs cells slots Q (gz z)) → W p l e R s m args below meth c H locs cells slots Q g) : W p l e R s m args below meth c H locs cells slots Q g := k hj
variable {D : va_G} {cl : List vw_C} {tys : List (ClassId × FieldType)} {ws : va_W} {A : Nat → Prop} {H0 : Heap} {a : Nat}
theorem ct_lald (hexec : p.tables.exec = Jvm.exec) (hb : c.code = cc) (hK : va_K D cl tys s) (hP : va_P D cl ws H) (q0 t0 : Nat) {cA : ClassId} {n : Nat} {f : Nat → Int64} (ha : ws[q0]? = some (a, .inl (cA, n, .inr (.inl f)))) (ht : tys[t0]? = some (cA, .long)) {i : Int32} (k : Nat) (hi : i = nI k) (hk : k < n) (hn : n < 2 ^ 31) (hdg : decode cc pc = .ok (.laload, 1)) (kk : W p l e R s m args below meth c H locs cells slots Q (F0 m (pc + 1) ls (.long (f k) :: rest))) : W p l e R s m args below meth c H locs cells slots Q (F0 m pc ls (.int i :: .ref a :: rest)) := by
  subst hi
  refine va_lald hexec hb hK hP q0 t0 ha ht (vp_in_nI hk hn) hdg ?_
  rw [nI_clamp (by omega)]
  exact kk
theorem ct_iald (hexec : p.tables.exec = Jvm.exec) (hb : c.code = cc) (hK : va_K D cl tys s) (hP : va_P D cl ws H) (q0 t0 : Nat) {cA : ClassId} {n : Nat} {f : Nat → Int32} (ha : ws[q0]? = some (a, .inl (cA, n, .inl f))) (ht : tys[t0]? = some (cA, .int)) {i : Int32} (k : Nat) (hi : i = nI k) (hk : k < n) (hn : n < 2 ^ 31) (hdg : decode cc pc = .ok (.iaload, 1)) (kk : W p l e R s m args below meth c H locs cells slots Q (F0 m (pc + 1) ls (.int (f k) :: rest))) : W p l e R s m args below meth c H locs cells slots Q (F0 m pc ls (.int i :: .ref a :: rest)) := by
  subst hi
  refine va_iald hexec hb hK hP q0 t0 ha ht (vp_in_nI hk hn) hdg ?_
  rw [nI_clamp (by omega)]
  exact kk
theorem ct_last (hexec : p.tables.exec = Jvm.exec) (hb : c.code = cc) (hK : va_K D cl tys s) (hP : va_P D cl ws H) (hD : va_D A ws) (hS : va_S A H0 H locs) (q0 t0 : Nat) {cA : ClassId} {n : Nat} {f : Nat → Int64} (ha : ws[q0]? = some (a, .inl (cA, n, .inr (.inl f)))) (ht : tys[t0]? = some (cA, .long)) {i : Int32} {x : Int64} (k : Nat) (hi : i = nI k) (hk : k < n) (hn : n < 2 ^ 31) (hdg : decode cc pc = .ok (.lastore, 1)) (kk : ∀ (H1 : Heap) (locs1 : List Loc), va_P D cl (ws.set q0 (a, .inl (cA, n, .inr (.inl (vp_updL f k x))))) H1 → va_D A (ws.set q0 (a, .inl (cA, n, .inr (.inl (vp_updL f k x))))) → va_S A H0 H1 locs1 → W p l e R s m args below meth c H1 locs1 cells slots Q (F0 m (pc + 1) ls rest)) : W p l e R s m args below meth c H locs cells slots Q (F0 m pc ls (.long x :: .int i :: .ref a :: rest)) := by
  subst hi
  refine va_last hexec hb hK hP hD hS q0 t0 ha ht (vp_in_nI hk hn) hdg ?_
  rw [nI_clamp (by omega)]
  exact kk
theorem ct_iast (hexec : p.tables.exec = Jvm.exec) (hb : c.code = cc) (hK : va_K D cl tys s) (hP : va_P D cl ws H) (hD : va_D A ws) (hS : va_S A H0 H locs) (q0 t0 : Nat) {cA : ClassId} {n : Nat} {f : Nat → Int32} (ha : ws[q0]? = some (a, .inl (cA, n, .inl f))) (ht : tys[t0]? = some (cA, .int)) {i x : Int32} (k : Nat) (hi : i = nI k) (hk : k < n) (hn : n < 2 ^ 31) (hdg : decode cc pc = .ok (.iastore, 1)) (kk : ∀ (H1 : Heap) (locs1 : List Loc), va_P D cl (ws.set q0 (a, .inl (cA, n, .inl (upd f k x)))) H1 → va_D A (ws.set q0 (a, .inl (cA, n, .inl (upd f k x)))) → va_S A H0 H1 locs1 → W p l e R s m args below meth c H1 locs1 cells slots Q (F0 m (pc + 1) ls rest)) : W p l e R s m args below meth c H locs cells slots Q (F0 m pc ls (.int x :: .int i :: .ref a :: rest)) := by
  subst hi
  refine va_iast hexec hb hK hP hD hS q0 t0 ha ht (vp_in_nI hk hn) hdg ?_
  rw [nI_clamp (by omega)]
  exact kk
end CTd
