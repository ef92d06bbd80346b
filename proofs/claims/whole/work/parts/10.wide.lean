set_option maxHeartbeats 4000000 in
set_option maxRecDepth 100000 in
/-- Arrays.fill's loop -/
theorem lp_fill {p : Program} {l : Launch} {e : Env} {R : Room} {s : State} {m : MethodId} {args : Array Value} {below : List Frame} {meth : Method} {c : Code} {Q : State → Prop} {A : Nat → Prop} {cells slots : Nat} {dC : Nat → ClassId} {dI : Nat → Nat → Nat} {a0 : Nat} {cL : ClassId} {n : Nat} {f : Nat → Int64} {v : Int64} (hF : ct_F p s m meth c b_fill none 5 w_fill y_fill args) (hA : ∀ q, s.heap.size ≤ q → A q) (hK : va_K (dC, dI) cl9 [(cL, .long)] s) (hn : n < 2 ^ 31)
    (K : ∀ (H : Heap) (locs : List Loc) (ls : Array Slot), va_P (dC, dI) cl9 [(a0, .inl (cL, n, .inr (.inl (wd_fl f v n))))] H → va_D A [(a0, .inl (cL, n, .inr (.inl (wd_fl f v n))))] → va_S A s.heap H locs → lv_has ls 5 [(0, .ref a0), (1, .long v), (3, .int (nI n)), (4, .int (nI n))] → W p l e R s m args below meth c H locs cells slots Q (F0 m 22 ls [])) :
    ∀ (n9 i : Nat), i + n9 = n → ∀ (H : Heap) (locs : List Loc) (ls : Array Slot), va_P (dC, dI) cl9 [(a0, .inl (cL, n, .inr (.inl (wd_fl f v i))))] H → va_D A [(a0, .inl (cL, n, .inr (.inl (wd_fl f v i))))] → va_S A s.heap H locs → lv_has ls 5 [(0, .ref a0), (1, .long v), (3, .int (nI i)), (4, .int (nI n))] → W p l e R s m args below meth c H locs cells slots Q (F0 m 6 ls []) := by
  obtain ⟨hx, hb, hr, hml, hts, hown, hlocks, hnm⟩ := id hF
  have hown : s.vm.findClass "java/util/Arrays" = some m.cls := hown
  intro n9
  induction n9 with
  | zero =>
    intro i hi H locs ls hP hD hS hl
    obtain rfl : n = i := by omega
    refine lv_iload_n hx hb d_fill_6 rfl (lv_at hl 2 rfl) ?_
    refine lv_iload hx hb d_fill_7 (lv_at hl 3 rfl) ?_
    refine lv_icmp_ge (tgt := 22) hx hb d_fill_9 (by decide) (fun hc => ?_) (fun hc => ?_)
    · exact K _ _ _ hP hD hS (lv_sub hl [0, 1, 2, 3] rfl)
    · exact absurd (show nI n ≤ nI n from nI_le (by omega) (by omega)) hc
  | succ n9 ih =>
    intro i hi H locs ls hP hD hS hl
    have hlt : i < n := by omega
    refine lv_iload_n hx hb d_fill_6 rfl (lv_at hl 2 rfl) ?_
    refine lv_iload hx hb d_fill_7 (lv_at hl 3 rfl) ?_
    refine lv_icmp_ge (tgt := 22) hx hb d_fill_9 (by decide) (fun hc => ?_) (fun hc => ?_)
    · exact absurd (show nI n ≤ nI i from hc) (nI_ge (by omega) (by omega))
    · refine lv_aload_n hx hb d_fill_12 rfl (lv_at hl 0 rfl) ?_
      refine lv_iload_n hx hb d_fill_13 rfl (lv_at hl 2 rfl) ?_
      refine lv_lload_n hx hb d_fill_14 rfl (lv_at hl 1 rfl) ?_
      refine ct_last hx hb hK hP hD hS 0 0 rfl rfl i rfl (by omega) (by omega) d_fill_15 (fun H locs hP hD hS => ?_)
      have hP : va_P (dC, dI) cl9 [(a0, .inl (cL, n, .inr (.inl (vp_updL (wd_fl f v i) i v))))] H := hP
      have hD : va_D A [(a0, .inl (cL, n, .inr (.inl (vp_updL (wd_fl f v i) i v))))] := hD
      refine lv_iinc (v := (nI (i + 1))) (lv' := [(3, .int (nI (i + 1))), (0, .ref a0), (1, .long v), (4, .int (nI n))]) hx hb d_fill_16 hl (k := 2) rfl (by exact nI_1 i) (by decide) rfl (fun ls hl => ?_)
      refine lv_goto (tgt := 6) hx hb d_fill_19 (by decide) ?_
      rw [wd_fl_s] at hP hD
      exact ih (i + 1) (by omega) _ _ _ hP hD hS (lv_sub hl [1, 2, 0, 3] rfl)
set_option maxHeartbeats 4000000 in
set_option maxRecDepth 100000 in
/-- Arrays.fill(a, v): every place holds v -/
theorem c_fill (l : Launch) (dC : Nat → ClassId) (dI : Nat → Nat → Nat) (a0 : Nat) (cL : ClassId) (n : Nat) (hn : n < 2 ^ 31) (f : Nat → Int64) (v : Int64) (sz : Nat) : ct_V l y_fill w_fill { frames := 0, cells := 0, slots := 0, locals := 0 } (dC, dI) cl9 [(cL, .long)] ct_G0 [.ref a0, .long v] [(a0, .inl (cL, n, .inr (.inl f)))] sz (S := Nat → Int64) (fun u => u = wd_fl f v n) (fun _ => [(cL, .long)]) (fun u => [(a0, .inl (cL, n, .inr (.inl u)))]) 0 0 := by
  refine ct_of (Qf := fun A => va_Qv (fun u => u = wd_fl f v n) (ct_B (S := Nat → Int64) (dC, dI) cl9 (fun _ => [(cL, .long)]) A (fun u => [(a0, .inl (cL, n, .inr (.inl u)))])) A) (cc := b_fill) (maxL := 5) (ret := none) (by decide +kernel) rfl (Nat.le_of_ble_eq_true rfl) ?_
  intro p e s m below meth c A ls hF hA hP hK hD hG hS hl
  obtain ⟨hx, hb, hr, hml, hts, hown, hlocks, hnm⟩ := id hF
  have hown : s.vm.findClass "java/util/Arrays" = some m.cls := hown
  have hl : lv_has ls 5 [(0, .ref a0), (1, .long v)] := hl
  refine lv_iconst (v := 0) hx hb d_fill_0 (by decide) ?_
  refine lv_istore_n (lv' := [(3, .int 0), (0, .ref a0), (1, .long v)]) hx hb d_fill_1 rfl hl (by decide) rfl (fun ls hl => ?_)
  refine lv_aload_n hx hb d_fill_2 rfl (lv_at hl 1 rfl) ?_
  refine va_alen (v := (nI n)) hx hb hK hP 0 0 rfl rfl rfl d_fill_3 ?_
  refine lv_istore (lv' := [(4, .int (nI n)), (3, .int 0), (0, .ref a0), (1, .long v)]) hx hb d_fill_4 hl (by decide) rfl (fun ls hl => ?_)
  rw [← wd_fl_0 f v] at hP hD
  refine lp_fill (a0 := a0) (cL := cL) (n := n) (f := f) (v := v) hF hA hK hn (fun H locs ls hP hD hS hl => ?_) n 0 (by omega) _ _ _ hP hD hS (lv_sub hl [2, 3, 1, 0] rfl)
  exact ct_vret hF d_fill_22 (wd_fl f v n) rfl (hP.sub [0] rfl) (hD.sub [0] (by decide) rfl) hK hS
set_option maxHeartbeats 4000000 in
set_option maxRecDepth 100000 in
/-- Math.max of two ints -/
theorem c_max (l : Launch) (dC : Nat → ClassId) (dI : Nat → Nat → Nat) (x y : Int32) (sz : Nat) : ct_I l y_Math_max_III w_Math_max_III { frames := 0, cells := 0, slots := 0, locals := 0 } (dC, dI) cl9 [] ct_G0 [.int x, .int y] [] sz (S := Unit) (fun r _ => r = if x < y then y else x) (fun _ => []) (fun _ => []) 0 0 := by
  refine ct_ofF (Qf := fun A => va_Qi (fun r _ => r = if x < y then y else x) (ct_B (S := Unit) (dC, dI) cl9 (fun _ => []) A (fun _ => [])) A) (cc := b_Math_max_III) (maxL := 2) (ret := ((some .int))) (by decide +kernel) rfl (Nat.le_of_ble_eq_true rfl) ?_
  intro p e s m below meth c A ls hF hA hP hK hD hG hS hl
  obtain ⟨hx, hb, hr, hml, hts, hown, hlocks, hnm⟩ := id hF
  have hown : s.vm.findClass "java/lang/Math" = some m.cls := hown
  have hl : lv_has ls 2 [(0, .int x), (1, .int y)] := hl
  refine lv_iload_n hx hb d_Math_max_III_0 rfl (lv_at hl 0 rfl) ?_
  refine lv_iload_n hx hb d_Math_max_III_1 rfl (lv_at hl 1 rfl) ?_
  refine lv_icmp_lt (tgt := 9) hx hb d_Math_max_III_2 (by decide) (fun hc => ?_) (fun hc => ?_)
  · refine lv_iload_n hx hb d_Math_max_III_9 rfl (lv_at hl 1 rfl) ?_
    exact ct_iret hF d_Math_max_III_10 () (if_pos hc).symm (hP.sub [] rfl) (hD.sub [] (by decide) rfl) hK hS
  · refine lv_iload_n hx hb d_Math_max_III_5 rfl (lv_at hl 0 rfl) ?_
    refine lv_goto (tgt := 10) hx hb d_Math_max_III_6 (by decide) ?_
    exact ct_iret hF d_Math_max_III_10 () (if_neg hc).symm (hP.sub [] rfl) (hD.sub [] (by decide) rfl) hK hS
set_option maxHeartbeats 4000000 in
set_option maxRecDepth 100000 in
/-- add's loop -/
theorem lp_W_add {p : Program} {l : Launch} {e : Env} {R : Room} {s : State} {m : MethodId} {args : Array Value} {below : List Frame} {meth : Method} {c : Code} {Q : State → Prop} {A : Nat → Prop} {cells slots : Nat} {dC : Nat → ClassId} {dI : Nat → Nat → Nat} {h0 : Nat} {a0 : Nat} {b0 : Nat} {h1 : Nat} {a1 : Nat} {b1 : Nat} {cL : ClassId} {f : Nat → Int64} {g : Nat → Int64} (hF : ct_F p s m meth c b_W_add none 7 w_W_add y_W_add args) (hA : ∀ q, s.heap.size ≤ q → A q) (hK : va_K (dC, dI) cl9 [(cL, .long)] s) 
    (K : ∀ (H : Heap) (locs : List Loc) (ls : Array Slot), va_P (dC, dI) cl9 [(h0, .inr (0, [.ref a0, .ref b0])), (a0, .inl (cL, 7, .inr (.inl ((wd_add f g 7).1)))), (h1, .inr (0, [.ref a1, .ref b1])), (a1, .inl (cL, 7, .inr (.inl g)))] H → va_D A [(h0, .inr (0, [.ref a0, .ref b0])), (a0, .inl (cL, 7, .inr (.inl ((wd_add f g 7).1)))), (h1, .inr (0, [.ref a1, .ref b1])), (a1, .inl (cL, 7, .inr (.inl g)))] → va_S A s.heap H locs → lv_has ls 7 [(0, .ref h0), (1, .ref h1), (2, .long ((wd_add f g 7).2)), (4, .int (nI 7))] → W p l e R s m args below meth c H locs cells slots Q (F0 m 56 ls [])) :
    ∀ (n9 i : Nat), i + n9 = 7 → ∀ (H : Heap) (locs : List Loc) (ls : Array Slot), va_P (dC, dI) cl9 [(h0, .inr (0, [.ref a0, .ref b0])), (a0, .inl (cL, 7, .inr (.inl ((wd_add f g i).1)))), (h1, .inr (0, [.ref a1, .ref b1])), (a1, .inl (cL, 7, .inr (.inl g)))] H → va_D A [(h0, .inr (0, [.ref a0, .ref b0])), (a0, .inl (cL, 7, .inr (.inl ((wd_add f g i).1)))), (h1, .inr (0, [.ref a1, .ref b1])), (a1, .inl (cL, 7, .inr (.inl g)))] → va_S A s.heap H locs → lv_has ls 7 [(0, .ref h0), (1, .ref h1), (2, .long ((wd_add f g i).2)), (4, .int (nI i))] → W p l e R s m args below meth c H locs cells slots Q (F0 m 5 ls []) := by
  obtain ⟨hx, hb, hr, hml, hts, hown, hlocks, hnm⟩ := id hF
  have hown : s.vm.findClass R_W = some m.cls := hown
  have ha : ∀ w ∈ al_W, w.before args s = true := fun w h => hts w (List.mem_cons_of_mem _ h)
  intro n9
  induction n9 with
  | zero =>
    intro i hi H locs ls hP hD hS hl
    obtain rfl : 7 = i := by omega
    refine lv_iload hx hb d_W_add_5 (lv_at hl 3 rfl) ?_
    refine lv_bipush (v := 7) hx hb d_W_add_7 (by decide) ?_
    refine lv_icmp_ge (tgt := 56) hx hb d_W_add_9 (by decide) (fun hc => ?_) (fun hc => ?_)
    · exact K _ _ _ hP hD hS (lv_sub hl [0, 1, 2, 3] rfl)
    · exact absurd (show nI 7 ≤ nI 7 from nI_le (by omega) (by omega)) hc
  | succ n9 ih =>
    intro i hi H locs ls hP hD hS hl
    have hlt : i < 7 := by omega
    refine lv_iload hx hb d_W_add_5 (lv_at hl 3 rfl) ?_
    refine lv_bipush (v := 7) hx hb d_W_add_7 (by decide) ?_
    refine lv_icmp_ge (tgt := 56) hx hb d_W_add_9 (by decide) (fun hc => ?_) (fun hc => ?_)
    · exact absurd (show nI 7 ≤ nI i from hc) (nI_ge (by omega) (by omega))
    · refine lv_aload_n hx hb d_W_add_12 rfl (lv_at hl 0 rfl) ?_
      refine va_get (D := (dC, dI)) (ci := 0) (v := .ref a0) (C := R_W) (T := F_W) (N := 2) hx hb ha ui_W hown hK hP 0 rfl rfl 0 (by decide) (ha _ wm_W_5) (fun _ h9 => h9) rfl d_W_add_13 ?_
      refine lv_iload hx hb d_W_add_16 (lv_at hl 3 rfl) ?_
      refine ct_lald hx hb hK hP 1 0 rfl rfl i rfl (by omega) (by omega) d_W_add_18 ?_
      refine lv_aload_n hx hb d_W_add_19 rfl (lv_at hl 1 rfl) ?_
      refine va_get (D := (dC, dI)) (ci := 0) (v := .ref a1) (C := R_W) (T := F_W) (N := 2) hx hb ha ui_W hown hK hP 2 rfl rfl 0 (by decide) (ha _ wm_W_5) (fun _ h9 => h9) rfl d_W_add_20 ?_
      refine lv_iload hx hb d_W_add_23 (lv_at hl 3 rfl) ?_
      refine ct_lald hx hb hK hP 3 0 rfl rfl i rfl (by omega) (by omega) d_W_add_25 ?_
      refine lv_ladd hx hb d_W_add_26 ?_
      refine lv_lload_n hx hb d_W_add_27 rfl (lv_at hl 2 rfl) ?_
      refine lv_ladd hx hb d_W_add_28 ?_
      refine lv_lstore (lv' := [(5, .long (((((wd_add f g i).1) i) + (g i)) + ((wd_add f g i).2))), (0, .ref h0), (1, .ref h1), (2, .long ((wd_add f g i).2)), (4, .int (nI i))]) hx hb d_W_add_29 hl (by decide) rfl (fun ls hl => ?_)
      refine lv_aload_n hx hb d_W_add_31 rfl (lv_at hl 1 rfl) ?_
      refine va_get (D := (dC, dI)) (ci := 0) (v := .ref a0) (C := R_W) (T := F_W) (N := 2) hx hb ha ui_W hown hK hP 0 rfl rfl 0 (by decide) (ha _ wm_W_5) (fun _ h9 => h9) rfl d_W_add_32 ?_
      refine lv_iload hx hb d_W_add_35 (lv_at hl 4 rfl) ?_
      refine lv_lload hx hb d_W_add_37 (lv_at hl 0 rfl) ?_
      refine lv_ldc2 (v := 4294967295) hx hb hown (ha _ wm_W_13) d_W_add_39 ?_
      refine lv_land hx hb d_W_add_42 ?_
      refine ct_last hx hb hK hP hD hS 1 0 rfl rfl i rfl (by omega) (by omega) d_W_add_43 (fun H locs hP hD hS => ?_)
      have hP : va_P (dC, dI) cl9 [(h0, .inr (0, [.ref a0, .ref b0])), (a0, .inl (cL, 7, .inr (.inl (vp_updL ((wd_add f g i).1) i ((((((wd_add f g i).1) i) + (g i)) + ((wd_add f g i).2)) &&& 4294967295))))), (h1, .inr (0, [.ref a1, .ref b1])), (a1, .inl (cL, 7, .inr (.inl g)))] H := hP
      have hD : va_D A [(h0, .inr (0, [.ref a0, .ref b0])), (a0, .inl (cL, 7, .inr (.inl (vp_updL ((wd_add f g i).1) i ((((((wd_add f g i).1) i) + (g i)) + ((wd_add f g i).2)) &&& 4294967295))))), (h1, .inr (0, [.ref a1, .ref b1])), (a1, .inl (cL, 7, .inr (.inl g)))] := hD
      refine lv_lload hx hb d_W_add_44 (lv_at hl 0 rfl) ?_
      refine lv_bipush (v := 32) hx hb d_W_add_46 (by decide) ?_
      refine lv_lushr (v := (pu_us (((((wd_add f g i).1) i) + (g i)) + ((wd_add f g i).2)) 32)) hx hb d_W_add_48 rfl ?_
      refine lv_lstore_n (lv' := [(2, .long (pu_us (((((wd_add f g i).1) i) + (g i)) + ((wd_add f g i).2)) 32)), (5, .long (((((wd_add f g i).1) i) + (g i)) + ((wd_add f g i).2))), (0, .ref h0), (1, .ref h1), (4, .int (nI i))]) hx hb d_W_add_49 rfl hl (by decide) rfl (fun ls hl => ?_)
      refine lv_iinc (v := (nI (i + 1))) (lv' := [(4, .int (nI (i + 1))), (2, .long (pu_us (((((wd_add f g i).1) i) + (g i)) + ((wd_add f g i).2)) 32)), (5, .long (((((wd_add f g i).1) i) + (g i)) + ((wd_add f g i).2))), (0, .ref h0), (1, .ref h1)]) hx hb d_W_add_50 hl (k := 4) rfl (by exact nI_1 i) (by decide) rfl (fun ls hl => ?_)
      refine lv_goto (tgt := 5) hx hb d_W_add_53 (by decide) ?_
      exact ih (i + 1) (by omega) _ _ _ hP hD hS (lv_sub hl [3, 4, 1, 0] rfl)
set_option maxHeartbeats 4000000 in
set_option maxRecDepth 100000 in
/-- this becomes this + other -/
theorem c_W_add (l : Launch) (dC : Nat → ClassId) (dI : Nat → Nat → Nat) (h0 a0 b0 h1 a1 b1 : Nat) (cL : ClassId) (f g : Nat → Int64) (sz : Nat) : ct_V l y_W_add w_W_add { frames := 0, cells := 0, slots := 0, locals := 0 } (dC, dI) cl9 [(cL, .long)] ct_G0 [.ref h0, .ref h1] [(h0, .inr (0, [.ref a0, .ref b0])), (a0, .inl (cL, 7, .inr (.inl f))), (h1, .inr (0, [.ref a1, .ref b1])), (a1, .inl (cL, 7, .inr (.inl g)))] sz (S := Nat → Int64) (fun u => u = (wd_add f g 7).1) (fun _ => [(cL, .long)]) (fun u => [(h0, .inr (0, [.ref a0, .ref b0])), (a0, .inl (cL, 7, .inr (.inl u))), (h1, .inr (0, [.ref a1, .ref b1])), (a1, .inl (cL, 7, .inr (.inl g)))]) 0 0 := by
  refine ct_of (Qf := fun A => va_Qv (fun u => u = (wd_add f g 7).1) (ct_B (S := Nat → Int64) (dC, dI) cl9 (fun _ => [(cL, .long)]) A (fun u => [(h0, .inr (0, [.ref a0, .ref b0])), (a0, .inl (cL, 7, .inr (.inl u))), (h1, .inr (0, [.ref a1, .ref b1])), (a1, .inl (cL, 7, .inr (.inl g)))])) A) (cc := b_W_add) (maxL := 7) (ret := none) (by decide) rfl (Nat.le_of_ble_eq_true rfl) ?_
  intro p e s m below meth c A ls hF hA hP hK hD hG hS hl
  obtain ⟨hx, hb, hr, hml, hts, hown, hlocks, hnm⟩ := id hF
  have hown : s.vm.findClass R_W = some m.cls := hown
  have ha : ∀ w ∈ al_W, w.before [.ref h0, .ref h1].toArray s = true := fun w h => hts w (List.mem_cons_of_mem _ h)
  have hl : lv_has ls 7 [(0, .ref h0), (1, .ref h1)] := hl
  refine lv_lconst (v := 0) hx hb d_W_add_0 (by decide) ?_
  refine lv_lstore_n (lv' := [(2, .long 0), (0, .ref h0), (1, .ref h1)]) hx hb d_W_add_1 rfl hl (by decide) rfl (fun ls hl => ?_)
  refine lv_iconst (v := 0) hx hb d_W_add_2 (by decide) ?_
  refine lv_istore (lv' := [(4, .int 0), (2, .long 0), (0, .ref h0), (1, .ref h1)]) hx hb d_W_add_3 hl (by decide) rfl (fun ls hl => ?_)
  refine lp_W_add (h0 := h0) (a0 := a0) (b0 := b0) (h1 := h1) (a1 := a1) (b1 := b1) (cL := cL) (f := f) (g := g) hF hA hK (fun H locs ls hP hD hS hl => ?_) 7 0 (by omega) _ _ _ hP hD hS (lv_sub hl [2, 3, 1, 0] rfl)
  exact ct_vret hF d_W_add_56 ((wd_add f g 7).1) rfl (hP.sub [0, 1, 2, 3] rfl) (hD.sub [0, 1, 2, 3] (by decide) rfl) hK hS
set_option maxHeartbeats 4000000 in
set_option maxRecDepth 100000 in
/-- subtract's loop -/
theorem lp_W_subtract {p : Program} {l : Launch} {e : Env} {R : Room} {s : State} {m : MethodId} {args : Array Value} {below : List Frame} {meth : Method} {c : Code} {Q : State → Prop} {A : Nat → Prop} {cells slots : Nat} {dC : Nat → ClassId} {dI : Nat → Nat → Nat} {h0 : Nat} {a0 : Nat} {b0 : Nat} {h1 : Nat} {a1 : Nat} {b1 : Nat} {cL : ClassId} {f : Nat → Int64} {g : Nat → Int64} (hF : ct_F p s m meth c b_W_subtract none 7 w_W_subtract y_W_subtract args) (hA : ∀ q, s.heap.size ≤ q → A q) (hK : va_K (dC, dI) cl9 [(cL, .long)] s) 
    (K : ∀ (H : Heap) (locs : List Loc) (ls : Array Slot), va_P (dC, dI) cl9 [(h0, .inr (0, [.ref a0, .ref b0])), (a0, .inl (cL, 7, .inr (.inl ((wd_sub f g 7).1)))), (h1, .inr (0, [.ref a1, .ref b1])), (a1, .inl (cL, 7, .inr (.inl g)))] H → va_D A [(h0, .inr (0, [.ref a0, .ref b0])), (a0, .inl (cL, 7, .inr (.inl ((wd_sub f g 7).1)))), (h1, .inr (0, [.ref a1, .ref b1])), (a1, .inl (cL, 7, .inr (.inl g)))] → va_S A s.heap H locs → lv_has ls 7 [(0, .ref h0), (1, .ref h1), (2, .long ((wd_sub f g 7).2)), (4, .int (nI 7))] → W p l e R s m args below meth c H locs cells slots Q (F0 m 56 ls [])) :
    ∀ (n9 i : Nat), i + n9 = 7 → ∀ (H : Heap) (locs : List Loc) (ls : Array Slot), va_P (dC, dI) cl9 [(h0, .inr (0, [.ref a0, .ref b0])), (a0, .inl (cL, 7, .inr (.inl ((wd_sub f g i).1)))), (h1, .inr (0, [.ref a1, .ref b1])), (a1, .inl (cL, 7, .inr (.inl g)))] H → va_D A [(h0, .inr (0, [.ref a0, .ref b0])), (a0, .inl (cL, 7, .inr (.inl ((wd_sub f g i).1)))), (h1, .inr (0, [.ref a1, .ref b1])), (a1, .inl (cL, 7, .inr (.inl g)))] → va_S A s.heap H locs → lv_has ls 7 [(0, .ref h0), (1, .ref h1), (2, .long ((wd_sub f g i).2)), (4, .int (nI i))] → W p l e R s m args below meth c H locs cells slots Q (F0 m 5 ls []) := by
  obtain ⟨hx, hb, hr, hml, hts, hown, hlocks, hnm⟩ := id hF
  have hown : s.vm.findClass R_W = some m.cls := hown
  have ha : ∀ w ∈ al_W, w.before args s = true := fun w h => hts w (List.mem_cons_of_mem _ h)
  intro n9
  induction n9 with
  | zero =>
    intro i hi H locs ls hP hD hS hl
    obtain rfl : 7 = i := by omega
    refine lv_iload hx hb d_W_subtract_5 (lv_at hl 3 rfl) ?_
    refine lv_bipush (v := 7) hx hb d_W_subtract_7 (by decide) ?_
    refine lv_icmp_ge (tgt := 56) hx hb d_W_subtract_9 (by decide) (fun hc => ?_) (fun hc => ?_)
    · exact K _ _ _ hP hD hS (lv_sub hl [0, 1, 2, 3] rfl)
    · exact absurd (show nI 7 ≤ nI 7 from nI_le (by omega) (by omega)) hc
  | succ n9 ih =>
    intro i hi H locs ls hP hD hS hl
    have hlt : i < 7 := by omega
    refine lv_iload hx hb d_W_subtract_5 (lv_at hl 3 rfl) ?_
    refine lv_bipush (v := 7) hx hb d_W_subtract_7 (by decide) ?_
    refine lv_icmp_ge (tgt := 56) hx hb d_W_subtract_9 (by decide) (fun hc => ?_) (fun hc => ?_)
    · exact absurd (show nI 7 ≤ nI i from hc) (nI_ge (by omega) (by omega))
    · refine lv_aload_n hx hb d_W_subtract_12 rfl (lv_at hl 0 rfl) ?_
      refine va_get (D := (dC, dI)) (ci := 0) (v := .ref a0) (C := R_W) (T := F_W) (N := 2) hx hb ha ui_W hown hK hP 0 rfl rfl 0 (by decide) (ha _ wm_W_5) (fun _ h9 => h9) rfl d_W_subtract_13 ?_
      refine lv_iload hx hb d_W_subtract_16 (lv_at hl 3 rfl) ?_
      refine ct_lald hx hb hK hP 1 0 rfl rfl i rfl (by omega) (by omega) d_W_subtract_18 ?_
      refine lv_aload_n hx hb d_W_subtract_19 rfl (lv_at hl 1 rfl) ?_
      refine va_get (D := (dC, dI)) (ci := 0) (v := .ref a1) (C := R_W) (T := F_W) (N := 2) hx hb ha ui_W hown hK hP 2 rfl rfl 0 (by decide) (ha _ wm_W_5) (fun _ h9 => h9) rfl d_W_subtract_20 ?_
      refine lv_iload hx hb d_W_subtract_23 (lv_at hl 3 rfl) ?_
      refine ct_lald hx hb hK hP 3 0 rfl rfl i rfl (by omega) (by omega) d_W_subtract_25 ?_
      refine lv_lsub hx hb d_W_subtract_26 ?_
      refine lv_lload_n hx hb d_W_subtract_27 rfl (lv_at hl 2 rfl) ?_
      refine lv_ladd hx hb d_W_subtract_28 ?_
      refine lv_lstore (lv' := [(5, .long (((((wd_sub f g i).1) i) - (g i)) + ((wd_sub f g i).2))), (0, .ref h0), (1, .ref h1), (2, .long ((wd_sub f g i).2)), (4, .int (nI i))]) hx hb d_W_subtract_29 hl (by decide) rfl (fun ls hl => ?_)
      refine lv_aload_n hx hb d_W_subtract_31 rfl (lv_at hl 1 rfl) ?_
      refine va_get (D := (dC, dI)) (ci := 0) (v := .ref a0) (C := R_W) (T := F_W) (N := 2) hx hb ha ui_W hown hK hP 0 rfl rfl 0 (by decide) (ha _ wm_W_5) (fun _ h9 => h9) rfl d_W_subtract_32 ?_
      refine lv_iload hx hb d_W_subtract_35 (lv_at hl 4 rfl) ?_
      refine lv_lload hx hb d_W_subtract_37 (lv_at hl 0 rfl) ?_
      refine lv_ldc2 (v := 4294967295) hx hb hown (ha _ wm_W_13) d_W_subtract_39 ?_
      refine lv_land hx hb d_W_subtract_42 ?_
      refine ct_last hx hb hK hP hD hS 1 0 rfl rfl i rfl (by omega) (by omega) d_W_subtract_43 (fun H locs hP hD hS => ?_)
      have hP : va_P (dC, dI) cl9 [(h0, .inr (0, [.ref a0, .ref b0])), (a0, .inl (cL, 7, .inr (.inl (vp_updL ((wd_sub f g i).1) i ((((((wd_sub f g i).1) i) - (g i)) + ((wd_sub f g i).2)) &&& 4294967295))))), (h1, .inr (0, [.ref a1, .ref b1])), (a1, .inl (cL, 7, .inr (.inl g)))] H := hP
      have hD : va_D A [(h0, .inr (0, [.ref a0, .ref b0])), (a0, .inl (cL, 7, .inr (.inl (vp_updL ((wd_sub f g i).1) i ((((((wd_sub f g i).1) i) - (g i)) + ((wd_sub f g i).2)) &&& 4294967295))))), (h1, .inr (0, [.ref a1, .ref b1])), (a1, .inl (cL, 7, .inr (.inl g)))] := hD
      refine lv_lload hx hb d_W_subtract_44 (lv_at hl 0 rfl) ?_
      refine lv_bipush (v := 32) hx hb d_W_subtract_46 (by decide) ?_
      refine lv_lshr (v := (pu_ss (((((wd_sub f g i).1) i) - (g i)) + ((wd_sub f g i).2)) 32)) hx hb d_W_subtract_48 rfl ?_
      refine lv_lstore_n (lv' := [(2, .long (pu_ss (((((wd_sub f g i).1) i) - (g i)) + ((wd_sub f g i).2)) 32)), (5, .long (((((wd_sub f g i).1) i) - (g i)) + ((wd_sub f g i).2))), (0, .ref h0), (1, .ref h1), (4, .int (nI i))]) hx hb d_W_subtract_49 rfl hl (by decide) rfl (fun ls hl => ?_)
      refine lv_iinc (v := (nI (i + 1))) (lv' := [(4, .int (nI (i + 1))), (2, .long (pu_ss (((((wd_sub f g i).1) i) - (g i)) + ((wd_sub f g i).2)) 32)), (5, .long (((((wd_sub f g i).1) i) - (g i)) + ((wd_sub f g i).2))), (0, .ref h0), (1, .ref h1)]) hx hb d_W_subtract_50 hl (k := 4) rfl (by exact nI_1 i) (by decide) rfl (fun ls hl => ?_)
      refine lv_goto (tgt := 5) hx hb d_W_subtract_53 (by decide) ?_
      exact ih (i + 1) (by omega) _ _ _ hP hD hS (lv_sub hl [3, 4, 1, 0] rfl)
set_option maxHeartbeats 4000000 in
set_option maxRecDepth 100000 in
/-- this becomes this - other -/
theorem c_W_subtract (l : Launch) (dC : Nat → ClassId) (dI : Nat → Nat → Nat) (h0 a0 b0 h1 a1 b1 : Nat) (cL : ClassId) (f g : Nat → Int64) (sz : Nat) : ct_V l y_W_subtract w_W_subtract { frames := 0, cells := 0, slots := 0, locals := 0 } (dC, dI) cl9 [(cL, .long)] ct_G0 [.ref h0, .ref h1] [(h0, .inr (0, [.ref a0, .ref b0])), (a0, .inl (cL, 7, .inr (.inl f))), (h1, .inr (0, [.ref a1, .ref b1])), (a1, .inl (cL, 7, .inr (.inl g)))] sz (S := Nat → Int64) (fun u => u = (wd_sub f g 7).1) (fun _ => [(cL, .long)]) (fun u => [(h0, .inr (0, [.ref a0, .ref b0])), (a0, .inl (cL, 7, .inr (.inl u))), (h1, .inr (0, [.ref a1, .ref b1])), (a1, .inl (cL, 7, .inr (.inl g)))]) 0 0 := by
  refine ct_of (Qf := fun A => va_Qv (fun u => u = (wd_sub f g 7).1) (ct_B (S := Nat → Int64) (dC, dI) cl9 (fun _ => [(cL, .long)]) A (fun u => [(h0, .inr (0, [.ref a0, .ref b0])), (a0, .inl (cL, 7, .inr (.inl u))), (h1, .inr (0, [.ref a1, .ref b1])), (a1, .inl (cL, 7, .inr (.inl g)))])) A) (cc := b_W_subtract) (maxL := 7) (ret := none) (by decide) rfl (Nat.le_of_ble_eq_true rfl) ?_
  intro p e s m below meth c A ls hF hA hP hK hD hG hS hl
  obtain ⟨hx, hb, hr, hml, hts, hown, hlocks, hnm⟩ := id hF
  have hown : s.vm.findClass R_W = some m.cls := hown
  have ha : ∀ w ∈ al_W, w.before [.ref h0, .ref h1].toArray s = true := fun w h => hts w (List.mem_cons_of_mem _ h)
  have hl : lv_has ls 7 [(0, .ref h0), (1, .ref h1)] := hl
  refine lv_lconst (v := 0) hx hb d_W_subtract_0 (by decide) ?_
  refine lv_lstore_n (lv' := [(2, .long 0), (0, .ref h0), (1, .ref h1)]) hx hb d_W_subtract_1 rfl hl (by decide) rfl (fun ls hl => ?_)
  refine lv_iconst (v := 0) hx hb d_W_subtract_2 (by decide) ?_
  refine lv_istore (lv' := [(4, .int 0), (2, .long 0), (0, .ref h0), (1, .ref h1)]) hx hb d_W_subtract_3 hl (by decide) rfl (fun ls hl => ?_)
  refine lp_W_subtract (h0 := h0) (a0 := a0) (b0 := b0) (h1 := h1) (a1 := a1) (b1 := b1) (cL := cL) (f := f) (g := g) hF hA hK (fun H locs ls hP hD hS hl => ?_) 7 0 (by omega) _ _ _ hP hD hS (lv_sub hl [2, 3, 1, 0] rfl)
  exact ct_vret hF d_W_subtract_56 ((wd_sub f g 7).1) rfl (hP.sub [0, 1, 2, 3] rfl) (hD.sub [0, 1, 2, 3] (by decide) rfl) hK hS
set_option maxHeartbeats 4000000 in
set_option maxRecDepth 100000 in
/-- negate's loop -/
theorem lp_W_negate {p : Program} {l : Launch} {e : Env} {R : Room} {s : State} {m : MethodId} {args : Array Value} {below : List Frame} {meth : Method} {c : Code} {Q : State → Prop} {A : Nat → Prop} {cells slots : Nat} {dC : Nat → ClassId} {dI : Nat → Nat → Nat} {h0 : Nat} {a0 : Nat} {b0 : Nat} {cL : ClassId} {f : Nat → Int64} (hF : ct_F p s m meth c b_W_negate none 6 w_W_negate y_W_negate args) (hA : ∀ q, s.heap.size ≤ q → A q) (hK : va_K (dC, dI) cl9 [(cL, .long)] s) 
    (K : ∀ (H : Heap) (locs : List Loc) (ls : Array Slot), va_P (dC, dI) cl9 [(h0, .inr (0, [.ref a0, .ref b0])), (a0, .inl (cL, 7, .inr (.inl ((wd_neg f 7).1))))] H → va_D A [(h0, .inr (0, [.ref a0, .ref b0])), (a0, .inl (cL, 7, .inr (.inl ((wd_neg f 7).1))))] → va_S A s.heap H locs → lv_has ls 6 [(0, .ref h0), (1, .long ((wd_neg f 7).2)), (3, .int (nI 7))] → W p l e R s m args below meth c H locs cells slots Q (F0 m 48 ls [])) :
    ∀ (n9 i : Nat), i + n9 = 7 → ∀ (H : Heap) (locs : List Loc) (ls : Array Slot), va_P (dC, dI) cl9 [(h0, .inr (0, [.ref a0, .ref b0])), (a0, .inl (cL, 7, .inr (.inl ((wd_neg f i).1))))] H → va_D A [(h0, .inr (0, [.ref a0, .ref b0])), (a0, .inl (cL, 7, .inr (.inl ((wd_neg f i).1))))] → va_S A s.heap H locs → lv_has ls 6 [(0, .ref h0), (1, .long ((wd_neg f i).2)), (3, .int (nI i))] → W p l e R s m args below meth c H locs cells slots Q (F0 m 4 ls []) := by
  obtain ⟨hx, hb, hr, hml, hts, hown, hlocks, hnm⟩ := id hF
  have hown : s.vm.findClass R_W = some m.cls := hown
  have ha : ∀ w ∈ al_W, w.before args s = true := fun w h => hts w (List.mem_cons_of_mem _ h)
  intro n9
  induction n9 with
  | zero =>
    intro i hi H locs ls hP hD hS hl
    obtain rfl : 7 = i := by omega
    refine lv_iload_n hx hb d_W_negate_4 rfl (lv_at hl 2 rfl) ?_
    refine lv_bipush (v := 7) hx hb d_W_negate_5 (by decide) ?_
    refine lv_icmp_ge (tgt := 48) hx hb d_W_negate_7 (by decide) (fun hc => ?_) (fun hc => ?_)
    · exact K _ _ _ hP hD hS (lv_sub hl [0, 1, 2] rfl)
    · exact absurd (show nI 7 ≤ nI 7 from nI_le (by omega) (by omega)) hc
  | succ n9 ih =>
    intro i hi H locs ls hP hD hS hl
    have hlt : i < 7 := by omega
    refine lv_iload_n hx hb d_W_negate_4 rfl (lv_at hl 2 rfl) ?_
    refine lv_bipush (v := 7) hx hb d_W_negate_5 (by decide) ?_
    refine lv_icmp_ge (tgt := 48) hx hb d_W_negate_7 (by decide) (fun hc => ?_) (fun hc => ?_)
    · exact absurd (show nI 7 ≤ nI i from hc) (nI_ge (by omega) (by omega))
    · refine lv_aload_n hx hb d_W_negate_10 rfl (lv_at hl 0 rfl) ?_
      refine va_get (D := (dC, dI)) (ci := 0) (v := .ref a0) (C := R_W) (T := F_W) (N := 2) hx hb ha ui_W hown hK hP 0 rfl rfl 0 (by decide) (ha _ wm_W_5) (fun _ h9 => h9) rfl d_W_negate_11 ?_
      refine lv_iload_n hx hb d_W_negate_14 rfl (lv_at hl 2 rfl) ?_
      refine ct_lald hx hb hK hP 1 0 rfl rfl i rfl (by omega) (by omega) d_W_negate_15 ?_
      refine lv_ldc2 (v := 4294967295) hx hb hown (ha _ wm_W_13) d_W_negate_16 ?_
      refine lv_lxor hx hb d_W_negate_19 ?_
      refine lv_lload_n hx hb d_W_negate_20 rfl (lv_at hl 1 rfl) ?_
      refine lv_ladd hx hb d_W_negate_21 ?_
      refine lv_lstore (lv' := [(4, .long (((((wd_neg f i).1) i) ^^^ 4294967295) + ((wd_neg f i).2))), (0, .ref h0), (1, .long ((wd_neg f i).2)), (3, .int (nI i))]) hx hb d_W_negate_22 hl (by decide) rfl (fun ls hl => ?_)
      refine lv_aload_n hx hb d_W_negate_24 rfl (lv_at hl 1 rfl) ?_
      refine va_get (D := (dC, dI)) (ci := 0) (v := .ref a0) (C := R_W) (T := F_W) (N := 2) hx hb ha ui_W hown hK hP 0 rfl rfl 0 (by decide) (ha _ wm_W_5) (fun _ h9 => h9) rfl d_W_negate_25 ?_
      refine lv_iload_n hx hb d_W_negate_28 rfl (lv_at hl 3 rfl) ?_
      refine lv_lload hx hb d_W_negate_29 (lv_at hl 0 rfl) ?_
      refine lv_ldc2 (v := 4294967295) hx hb hown (ha _ wm_W_13) d_W_negate_31 ?_
      refine lv_land hx hb d_W_negate_34 ?_
      refine ct_last hx hb hK hP hD hS 1 0 rfl rfl i rfl (by omega) (by omega) d_W_negate_35 (fun H locs hP hD hS => ?_)
      have hP : va_P (dC, dI) cl9 [(h0, .inr (0, [.ref a0, .ref b0])), (a0, .inl (cL, 7, .inr (.inl (vp_updL ((wd_neg f i).1) i ((((((wd_neg f i).1) i) ^^^ 4294967295) + ((wd_neg f i).2)) &&& 4294967295)))))] H := hP
      have hD : va_D A [(h0, .inr (0, [.ref a0, .ref b0])), (a0, .inl (cL, 7, .inr (.inl (vp_updL ((wd_neg f i).1) i ((((((wd_neg f i).1) i) ^^^ 4294967295) + ((wd_neg f i).2)) &&& 4294967295)))))] := hD
      refine lv_lload hx hb d_W_negate_36 (lv_at hl 0 rfl) ?_
      refine lv_bipush (v := 32) hx hb d_W_negate_38 (by decide) ?_
      refine lv_lushr (v := (pu_us (((((wd_neg f i).1) i) ^^^ 4294967295) + ((wd_neg f i).2)) 32)) hx hb d_W_negate_40 rfl ?_
      refine lv_lstore_n (lv' := [(1, .long (pu_us (((((wd_neg f i).1) i) ^^^ 4294967295) + ((wd_neg f i).2)) 32)), (4, .long (((((wd_neg f i).1) i) ^^^ 4294967295) + ((wd_neg f i).2))), (0, .ref h0), (3, .int (nI i))]) hx hb d_W_negate_41 rfl hl (by decide) rfl (fun ls hl => ?_)
      refine lv_iinc (v := (nI (i + 1))) (lv' := [(3, .int (nI (i + 1))), (1, .long (pu_us (((((wd_neg f i).1) i) ^^^ 4294967295) + ((wd_neg f i).2)) 32)), (4, .long (((((wd_neg f i).1) i) ^^^ 4294967295) + ((wd_neg f i).2))), (0, .ref h0)]) hx hb d_W_negate_42 hl (k := 3) rfl (by exact nI_1 i) (by decide) rfl (fun ls hl => ?_)
      refine lv_goto (tgt := 4) hx hb d_W_negate_45 (by decide) ?_
      exact ih (i + 1) (by omega) _ _ _ hP hD hS (lv_sub hl [3, 1, 0] rfl)
set_option maxHeartbeats 4000000 in
set_option maxRecDepth 100000 in
/-- this becomes -this -/
theorem c_W_negate (l : Launch) (dC : Nat → ClassId) (dI : Nat → Nat → Nat) (h0 a0 b0 : Nat) (cL : ClassId) (f : Nat → Int64) (sz : Nat) : ct_V l y_W_negate w_W_negate { frames := 0, cells := 0, slots := 0, locals := 0 } (dC, dI) cl9 [(cL, .long)] ct_G0 [.ref h0] [(h0, .inr (0, [.ref a0, .ref b0])), (a0, .inl (cL, 7, .inr (.inl f)))] sz (S := Nat → Int64) (fun u => u = (wd_neg f 7).1) (fun _ => [(cL, .long)]) (fun u => [(h0, .inr (0, [.ref a0, .ref b0])), (a0, .inl (cL, 7, .inr (.inl u)))]) 0 0 := by
  refine ct_of (Qf := fun A => va_Qv (fun u => u = (wd_neg f 7).1) (ct_B (S := Nat → Int64) (dC, dI) cl9 (fun _ => [(cL, .long)]) A (fun u => [(h0, .inr (0, [.ref a0, .ref b0])), (a0, .inl (cL, 7, .inr (.inl u)))])) A) (cc := b_W_negate) (maxL := 6) (ret := none) (by decide) rfl (Nat.le_of_ble_eq_true rfl) ?_
  intro p e s m below meth c A ls hF hA hP hK hD hG hS hl
  obtain ⟨hx, hb, hr, hml, hts, hown, hlocks, hnm⟩ := id hF
  have hown : s.vm.findClass R_W = some m.cls := hown
  have ha : ∀ w ∈ al_W, w.before [.ref h0].toArray s = true := fun w h => hts w (List.mem_cons_of_mem _ h)
  have hl : lv_has ls 6 [(0, .ref h0)] := hl
  refine lv_lconst (v := 1) hx hb d_W_negate_0 (by decide) ?_
  refine lv_lstore_n (lv' := [(1, .long 1), (0, .ref h0)]) hx hb d_W_negate_1 rfl hl (by decide) rfl (fun ls hl => ?_)
  refine lv_iconst (v := 0) hx hb d_W_negate_2 (by decide) ?_
  refine lv_istore_n (lv' := [(3, .int 0), (1, .long 1), (0, .ref h0)]) hx hb d_W_negate_3 rfl hl (by decide) rfl (fun ls hl => ?_)
  refine lp_W_negate (h0 := h0) (a0 := a0) (b0 := b0) (cL := cL) (f := f) hF hA hK (fun H locs ls hP hD hS hl => ?_) 7 0 (by omega) _ _ _ hP hD hS (lv_sub hl [2, 1, 0] rfl)
  exact ct_vret hF d_W_negate_48 ((wd_neg f 7).1) rfl (hP.sub [0, 1] rfl) (hD.sub [0, 1] (by decide) rfl) hK hS
set_option maxHeartbeats 4000000 in
set_option maxRecDepth 100000 in
/-- scale's loop -/
theorem lp_W_scale {p : Program} {l : Launch} {e : Env} {R : Room} {s : State} {m : MethodId} {args : Array Value} {below : List Frame} {meth : Method} {c : Code} {Q : State → Prop} {A : Nat → Prop} {cells slots : Nat} {dC : Nat → ClassId} {dI : Nat → Nat → Nat} {h0 : Nat} {a0 : Nat} {b0 : Nat} {cL : ClassId} {f : Nat → Int64} {k : Int64} (hF : ct_F p s m meth c b_W_scale none 8 w_W_scale y_W_scale args) (hA : ∀ q, s.heap.size ≤ q → A q) (hK : va_K (dC, dI) cl9 [(cL, .long)] s) 
    (K : ∀ (H : Heap) (locs : List Loc) (ls : Array Slot), va_P (dC, dI) cl9 [(h0, .inr (0, [.ref a0, .ref b0])), (a0, .inl (cL, 7, .inr (.inl ((wd_scl f k 7).1))))] H → va_D A [(h0, .inr (0, [.ref a0, .ref b0])), (a0, .inl (cL, 7, .inr (.inl ((wd_scl f k 7).1))))] → va_S A s.heap H locs → lv_has ls 8 [(0, .ref h0), (1, .long k), (3, .long ((wd_scl f k 7).2)), (5, .int (nI 7))] → W p l e R s m args below meth c H locs cells slots Q (F0 m 50 ls [])) :
    ∀ (n9 i : Nat), i + n9 = 7 → ∀ (H : Heap) (locs : List Loc) (ls : Array Slot), va_P (dC, dI) cl9 [(h0, .inr (0, [.ref a0, .ref b0])), (a0, .inl (cL, 7, .inr (.inl ((wd_scl f k i).1))))] H → va_D A [(h0, .inr (0, [.ref a0, .ref b0])), (a0, .inl (cL, 7, .inr (.inl ((wd_scl f k i).1))))] → va_S A s.heap H locs → lv_has ls 8 [(0, .ref h0), (1, .long k), (3, .long ((wd_scl f k i).2)), (5, .int (nI i))] → W p l e R s m args below meth c H locs cells slots Q (F0 m 5 ls []) := by
  obtain ⟨hx, hb, hr, hml, hts, hown, hlocks, hnm⟩ := id hF
  have hown : s.vm.findClass R_W = some m.cls := hown
  have ha : ∀ w ∈ al_W, w.before args s = true := fun w h => hts w (List.mem_cons_of_mem _ h)
  intro n9
  induction n9 with
  | zero =>
    intro i hi H locs ls hP hD hS hl
    obtain rfl : 7 = i := by omega
    refine lv_iload hx hb d_W_scale_5 (lv_at hl 3 rfl) ?_
    refine lv_bipush (v := 7) hx hb d_W_scale_7 (by decide) ?_
    refine lv_icmp_ge (tgt := 50) hx hb d_W_scale_9 (by decide) (fun hc => ?_) (fun hc => ?_)
    · exact K _ _ _ hP hD hS (lv_sub hl [0, 1, 2, 3] rfl)
    · exact absurd (show nI 7 ≤ nI 7 from nI_le (by omega) (by omega)) hc
  | succ n9 ih =>
    intro i hi H locs ls hP hD hS hl
    have hlt : i < 7 := by omega
    refine lv_iload hx hb d_W_scale_5 (lv_at hl 3 rfl) ?_
    refine lv_bipush (v := 7) hx hb d_W_scale_7 (by decide) ?_
    refine lv_icmp_ge (tgt := 50) hx hb d_W_scale_9 (by decide) (fun hc => ?_) (fun hc => ?_)
    · exact absurd (show nI 7 ≤ nI i from hc) (nI_ge (by omega) (by omega))
    · refine lv_aload_n hx hb d_W_scale_12 rfl (lv_at hl 0 rfl) ?_
      refine va_get (D := (dC, dI)) (ci := 0) (v := .ref a0) (C := R_W) (T := F_W) (N := 2) hx hb ha ui_W hown hK hP 0 rfl rfl 0 (by decide) (ha _ wm_W_5) (fun _ h9 => h9) rfl d_W_scale_13 ?_
      refine lv_iload hx hb d_W_scale_16 (lv_at hl 3 rfl) ?_
      refine ct_lald hx hb hK hP 1 0 rfl rfl i rfl (by omega) (by omega) d_W_scale_18 ?_
      refine lv_lload_n hx hb d_W_scale_19 rfl (lv_at hl 1 rfl) ?_
      refine lv_lmul hx hb d_W_scale_20 ?_
      refine lv_lload_n hx hb d_W_scale_21 rfl (lv_at hl 2 rfl) ?_
      refine lv_ladd hx hb d_W_scale_22 ?_
      refine lv_lstore (lv' := [(6, .long (((((wd_scl f k i).1) i) * k) + ((wd_scl f k i).2))), (0, .ref h0), (1, .long k), (3, .long ((wd_scl f k i).2)), (5, .int (nI i))]) hx hb d_W_scale_23 hl (by decide) rfl (fun ls hl => ?_)
      refine lv_aload_n hx hb d_W_scale_25 rfl (lv_at hl 1 rfl) ?_
      refine va_get (D := (dC, dI)) (ci := 0) (v := .ref a0) (C := R_W) (T := F_W) (N := 2) hx hb ha ui_W hown hK hP 0 rfl rfl 0 (by decide) (ha _ wm_W_5) (fun _ h9 => h9) rfl d_W_scale_26 ?_
      refine lv_iload hx hb d_W_scale_29 (lv_at hl 4 rfl) ?_
      refine lv_lload hx hb d_W_scale_31 (lv_at hl 0 rfl) ?_
      refine lv_ldc2 (v := 4294967295) hx hb hown (ha _ wm_W_13) d_W_scale_33 ?_
      refine lv_land hx hb d_W_scale_36 ?_
      refine ct_last hx hb hK hP hD hS 1 0 rfl rfl i rfl (by omega) (by omega) d_W_scale_37 (fun H locs hP hD hS => ?_)
      have hP : va_P (dC, dI) cl9 [(h0, .inr (0, [.ref a0, .ref b0])), (a0, .inl (cL, 7, .inr (.inl (vp_updL ((wd_scl f k i).1) i ((((((wd_scl f k i).1) i) * k) + ((wd_scl f k i).2)) &&& 4294967295)))))] H := hP
      have hD : va_D A [(h0, .inr (0, [.ref a0, .ref b0])), (a0, .inl (cL, 7, .inr (.inl (vp_updL ((wd_scl f k i).1) i ((((((wd_scl f k i).1) i) * k) + ((wd_scl f k i).2)) &&& 4294967295)))))] := hD
      refine lv_lload hx hb d_W_scale_38 (lv_at hl 0 rfl) ?_
      refine lv_bipush (v := 32) hx hb d_W_scale_40 (by decide) ?_
      refine lv_lushr (v := (pu_us (((((wd_scl f k i).1) i) * k) + ((wd_scl f k i).2)) 32)) hx hb d_W_scale_42 rfl ?_
      refine lv_lstore_n (lv' := [(3, .long (pu_us (((((wd_scl f k i).1) i) * k) + ((wd_scl f k i).2)) 32)), (6, .long (((((wd_scl f k i).1) i) * k) + ((wd_scl f k i).2))), (0, .ref h0), (1, .long k), (5, .int (nI i))]) hx hb d_W_scale_43 rfl hl (by decide) rfl (fun ls hl => ?_)
      refine lv_iinc (v := (nI (i + 1))) (lv' := [(5, .int (nI (i + 1))), (3, .long (pu_us (((((wd_scl f k i).1) i) * k) + ((wd_scl f k i).2)) 32)), (6, .long (((((wd_scl f k i).1) i) * k) + ((wd_scl f k i).2))), (0, .ref h0), (1, .long k)]) hx hb d_W_scale_44 hl (k := 4) rfl (by exact nI_1 i) (by decide) rfl (fun ls hl => ?_)
      refine lv_goto (tgt := 5) hx hb d_W_scale_47 (by decide) ?_
      exact ih (i + 1) (by omega) _ _ _ hP hD hS (lv_sub hl [3, 4, 1, 0] rfl)
set_option maxHeartbeats 4000000 in
set_option maxRecDepth 100000 in
/-- this becomes this times k -/
theorem c_W_scale (l : Launch) (dC : Nat → ClassId) (dI : Nat → Nat → Nat) (h0 a0 b0 : Nat) (cL : ClassId) (f : Nat → Int64) (k : Int64) (sz : Nat) : ct_V l y_W_scale w_W_scale { frames := 0, cells := 0, slots := 0, locals := 0 } (dC, dI) cl9 [(cL, .long)] ct_G0 [.ref h0, .long k] [(h0, .inr (0, [.ref a0, .ref b0])), (a0, .inl (cL, 7, .inr (.inl f)))] sz (S := Nat → Int64) (fun u => u = (wd_scl f k 7).1) (fun _ => [(cL, .long)]) (fun u => [(h0, .inr (0, [.ref a0, .ref b0])), (a0, .inl (cL, 7, .inr (.inl u)))]) 0 0 := by
  refine ct_of (Qf := fun A => va_Qv (fun u => u = (wd_scl f k 7).1) (ct_B (S := Nat → Int64) (dC, dI) cl9 (fun _ => [(cL, .long)]) A (fun u => [(h0, .inr (0, [.ref a0, .ref b0])), (a0, .inl (cL, 7, .inr (.inl u)))])) A) (cc := b_W_scale) (maxL := 8) (ret := none) (by decide) rfl (Nat.le_of_ble_eq_true rfl) ?_
  intro p e s m below meth c A ls hF hA hP hK hD hG hS hl
  obtain ⟨hx, hb, hr, hml, hts, hown, hlocks, hnm⟩ := id hF
  have hown : s.vm.findClass R_W = some m.cls := hown
  have ha : ∀ w ∈ al_W, w.before [.ref h0, .long k].toArray s = true := fun w h => hts w (List.mem_cons_of_mem _ h)
  have hl : lv_has ls 8 [(0, .ref h0), (1, .long k)] := hl
  refine lv_lconst (v := 0) hx hb d_W_scale_0 (by decide) ?_
  refine lv_lstore_n (lv' := [(3, .long 0), (0, .ref h0), (1, .long k)]) hx hb d_W_scale_1 rfl hl (by decide) rfl (fun ls hl => ?_)
  refine lv_iconst (v := 0) hx hb d_W_scale_2 (by decide) ?_
  refine lv_istore (lv' := [(5, .int 0), (3, .long 0), (0, .ref h0), (1, .long k)]) hx hb d_W_scale_3 hl (by decide) rfl (fun ls hl => ?_)
  refine lp_W_scale (h0 := h0) (a0 := a0) (b0 := b0) (cL := cL) (f := f) (k := k) hF hA hK (fun H locs ls hP hD hS hl => ?_) 7 0 (by omega) _ _ _ hP hD hS (lv_sub hl [2, 3, 1, 0] rfl)
  exact ct_vret hF d_W_scale_50 ((wd_scl f k 7).1) rfl (hP.sub [0, 1] rfl) (hD.sub [0, 1] (by decide) rfl) hK hS
set_option maxHeartbeats 4000000 in
set_option maxRecDepth 100000 in
/-- a whole number before the point -/
theorem c_W_load (l : Launch) (dC : Nat → ClassId) (dI : Nat → Nat → Nat) (h0 a0 b0 : Nat) (cL : ClassId) (f : Nat → Int64) (x : Int64) (sz : Nat) : ct_V l y_W_load w_W_load { frames := 1, cells := 0, slots := 0, locals := 24 } (dC, dI) cl9 [(cL, .long)] ct_G0 [.ref h0, .long x] [(h0, .inr (0, [.ref a0, .ref b0])), (a0, .inl (cL, 7, .inr (.inl f)))] sz (S := Nat → Int64) (fun u => u = wd_load f x) (fun _ => [(cL, .long)]) (fun u => [(h0, .inr (0, [.ref a0, .ref b0])), (a0, .inl (cL, 7, .inr (.inl u)))]) 0 0 := by
  refine ct_of (Qf := fun A => va_Qv (fun u => u = wd_load f x) (ct_B (S := Nat → Int64) (dC, dI) cl9 (fun _ => [(cL, .long)]) A (fun u => [(h0, .inr (0, [.ref a0, .ref b0])), (a0, .inl (cL, 7, .inr (.inl u)))])) A) (cc := b_W_load) (maxL := 3) (ret := none) (by decide) rfl (Nat.le_of_ble_eq_true rfl) ?_
  intro p e s m below meth c A ls hF hA hP hK hD hG hS hl
  obtain ⟨hx, hb, hr, hml, hts, hown, hlocks, hnm⟩ := id hF
  have hown : s.vm.findClass R_W = some m.cls := hown
  have ha : ∀ w ∈ al_W, w.before [.ref h0, .long x].toArray s = true := fun w h => hts w (List.mem_cons_of_mem _ h)
  have hl : lv_has ls 3 [(0, .ref h0), (1, .long x)] := hl
  refine lv_aload_n hx hb d_W_load_0 rfl (lv_at hl 0 rfl) ?_
  refine va_get (D := (dC, dI)) (ci := 0) (v := .ref a0) (C := R_W) (T := F_W) (N := 2) hx hb ha ui_W hown hK hP 0 rfl rfl 0 (by decide) (ha _ wm_W_5) (fun _ h9 => h9) rfl d_W_load_1 ?_
  refine lv_lconst (v := 0) hx hb d_W_load_4 (by decide) ?_
  refine cs_callv (va_runS (As := [.ref a0, .long 0]) (rest := []) ⟨hx, hb, hml, hown, ha⟩ (c_fill l dC dI a0 cL 7 (by omega) f 0 _) (va_cwS 2 ha g_W_fill rfl rfl rfl (by decide +kernel) ⟨Nat.le_of_ble_eq_true rfl, Nat.le_of_ble_eq_true rfl⟩) (ct_pre ct_G0ok trivial hK hP hD hS hA [1] rfl (by decide) [0] rfl) rfl rfl hl.1 rfl (lv_room (Nat.le_of_ble_eq_true rfl)) d_W_load_5 ⟨Nat.le_of_ble_eq_true rfl, Nat.le_of_ble_eq_true rfl⟩) hP hD hS hA [1] rfl (by decide) (fun _ => rfl) (fun u H locs hw hP hD hS => ?_)
  have hP : va_P (dC, dI) cl9 [(h0, .inr (0, [.ref a0, .ref b0])), (a0, .inl (cL, 7, .inr (.inl u)))] H := hP
  have hD : va_D A [(h0, .inr (0, [.ref a0, .ref b0])), (a0, .inl (cL, 7, .inr (.inl u)))] := hD
  subst hw
  have hP : va_P (dC, dI) cl9 [(h0, .inr (0, [.ref a0, .ref b0])), (a0, .inl (cL, 7, .inr (.inl (wd_fl f 0 7))))] H := hP
  have hD : va_D A [(h0, .inr (0, [.ref a0, .ref b0])), (a0, .inl (cL, 7, .inr (.inl (wd_fl f 0 7))))] := hD
  refine lv_aload_n hx hb d_W_load_8 rfl (lv_at hl 0 rfl) ?_
  refine va_get (D := (dC, dI)) (ci := 0) (v := .ref a0) (C := R_W) (T := F_W) (N := 2) hx hb ha ui_W hown hK hP 0 rfl rfl 0 (by decide) (ha _ wm_W_5) (fun _ h9 => h9) rfl d_W_load_9 ?_
  refine lv_iconst (v := 5) hx hb d_W_load_12 (by decide) ?_
  refine lv_lload_n hx hb d_W_load_13 rfl (lv_at hl 1 rfl) ?_
  refine lv_ldc2 (v := 4294967295) hx hb hown (ha _ wm_W_13) d_W_load_14 ?_
  refine lv_land hx hb d_W_load_17 ?_
  refine ct_last hx hb hK hP hD hS 1 0 rfl rfl 5 rfl (by omega) (by omega) d_W_load_18 (fun H locs hP hD hS => ?_)
  have hP : va_P (dC, dI) cl9 [(h0, .inr (0, [.ref a0, .ref b0])), (a0, .inl (cL, 7, .inr (.inl (vp_updL (wd_fl f 0 7) 5 (x &&& 4294967295)))))] H := hP
  have hD : va_D A [(h0, .inr (0, [.ref a0, .ref b0])), (a0, .inl (cL, 7, .inr (.inl (vp_updL (wd_fl f 0 7) 5 (x &&& 4294967295)))))] := hD
  refine lv_aload_n hx hb d_W_load_19 rfl (lv_at hl 0 rfl) ?_
  refine va_get (D := (dC, dI)) (ci := 0) (v := .ref a0) (C := R_W) (T := F_W) (N := 2) hx hb ha ui_W hown hK hP 0 rfl rfl 0 (by decide) (ha _ wm_W_5) (fun _ h9 => h9) rfl d_W_load_20 ?_
  refine lv_bipush (v := 6) hx hb d_W_load_23 (by decide) ?_
  refine lv_lload_n hx hb d_W_load_25 rfl (lv_at hl 1 rfl) ?_
  refine lv_bipush (v := 32) hx hb d_W_load_26 (by decide) ?_
  refine lv_lushr (v := (pu_us x 32)) hx hb d_W_load_28 rfl ?_
  refine ct_last hx hb hK hP hD hS 1 0 rfl rfl 6 rfl (by omega) (by omega) d_W_load_29 (fun H locs hP hD hS => ?_)
  have hP : va_P (dC, dI) cl9 [(h0, .inr (0, [.ref a0, .ref b0])), (a0, .inl (cL, 7, .inr (.inl (vp_updL (vp_updL (wd_fl f 0 7) 5 (x &&& 4294967295)) 6 (pu_us x 32)))))] H := hP
  have hD : va_D A [(h0, .inr (0, [.ref a0, .ref b0])), (a0, .inl (cL, 7, .inr (.inl (vp_updL (vp_updL (wd_fl f 0 7) 5 (x &&& 4294967295)) 6 (pu_us x 32)))))] := hD
  exact ct_vret hF d_W_load_30 (wd_load f x) rfl (hP.sub [0, 1] rfl) (hD.sub [0, 1] (by decide) rfl) hK hS
set_option maxHeartbeats 4000000 in
set_option maxRecDepth 100000 in
/-- a whole number without a point -/
theorem c_W_loadInteger (l : Launch) (dC : Nat → ClassId) (dI : Nat → Nat → Nat) (h0 a0 b0 : Nat) (cL : ClassId) (f : Nat → Int64) (x : Int64) (sz : Nat) : ct_V l y_W_loadInteger w_W_loadInteger { frames := 1, cells := 0, slots := 0, locals := 24 } (dC, dI) cl9 [(cL, .long)] ct_G0 [.ref h0, .long x] [(h0, .inr (0, [.ref a0, .ref b0])), (a0, .inl (cL, 7, .inr (.inl f)))] sz (S := Nat → Int64) (fun u => u = wd_loadI f x) (fun _ => [(cL, .long)]) (fun u => [(h0, .inr (0, [.ref a0, .ref b0])), (a0, .inl (cL, 7, .inr (.inl u)))]) 0 0 := by
  refine ct_of (Qf := fun A => va_Qv (fun u => u = wd_loadI f x) (ct_B (S := Nat → Int64) (dC, dI) cl9 (fun _ => [(cL, .long)]) A (fun u => [(h0, .inr (0, [.ref a0, .ref b0])), (a0, .inl (cL, 7, .inr (.inl u)))])) A) (cc := b_W_loadInteger) (maxL := 3) (ret := none) (by decide) rfl (Nat.le_of_ble_eq_true rfl) ?_
  intro p e s m below meth c A ls hF hA hP hK hD hG hS hl
  obtain ⟨hx, hb, hr, hml, hts, hown, hlocks, hnm⟩ := id hF
  have hown : s.vm.findClass R_W = some m.cls := hown
  have ha : ∀ w ∈ al_W, w.before [.ref h0, .long x].toArray s = true := fun w h => hts w (List.mem_cons_of_mem _ h)
  have hl : lv_has ls 3 [(0, .ref h0), (1, .long x)] := hl
  refine lv_aload_n hx hb d_W_loadInteger_0 rfl (lv_at hl 0 rfl) ?_
  refine va_get (D := (dC, dI)) (ci := 0) (v := .ref a0) (C := R_W) (T := F_W) (N := 2) hx hb ha ui_W hown hK hP 0 rfl rfl 0 (by decide) (ha _ wm_W_5) (fun _ h9 => h9) rfl d_W_loadInteger_1 ?_
  refine lv_lconst (v := 0) hx hb d_W_loadInteger_4 (by decide) ?_
  refine cs_callv (va_runS (As := [.ref a0, .long 0]) (rest := []) ⟨hx, hb, hml, hown, ha⟩ (c_fill l dC dI a0 cL 7 (by omega) f 0 _) (va_cwS 2 ha g_W_fill rfl rfl rfl (by decide +kernel) ⟨Nat.le_of_ble_eq_true rfl, Nat.le_of_ble_eq_true rfl⟩) (ct_pre ct_G0ok trivial hK hP hD hS hA [1] rfl (by decide) [0] rfl) rfl rfl hl.1 rfl (lv_room (Nat.le_of_ble_eq_true rfl)) d_W_loadInteger_5 ⟨Nat.le_of_ble_eq_true rfl, Nat.le_of_ble_eq_true rfl⟩) hP hD hS hA [1] rfl (by decide) (fun _ => rfl) (fun u H locs hw hP hD hS => ?_)
  have hP : va_P (dC, dI) cl9 [(h0, .inr (0, [.ref a0, .ref b0])), (a0, .inl (cL, 7, .inr (.inl u)))] H := hP
  have hD : va_D A [(h0, .inr (0, [.ref a0, .ref b0])), (a0, .inl (cL, 7, .inr (.inl u)))] := hD
  subst hw
  have hP : va_P (dC, dI) cl9 [(h0, .inr (0, [.ref a0, .ref b0])), (a0, .inl (cL, 7, .inr (.inl (wd_fl f 0 7))))] H := hP
  have hD : va_D A [(h0, .inr (0, [.ref a0, .ref b0])), (a0, .inl (cL, 7, .inr (.inl (wd_fl f 0 7))))] := hD
  refine lv_aload_n hx hb d_W_loadInteger_8 rfl (lv_at hl 0 rfl) ?_
  refine va_get (D := (dC, dI)) (ci := 0) (v := .ref a0) (C := R_W) (T := F_W) (N := 2) hx hb ha ui_W hown hK hP 0 rfl rfl 0 (by decide) (ha _ wm_W_5) (fun _ h9 => h9) rfl d_W_loadInteger_9 ?_
  refine lv_iconst (v := 0) hx hb d_W_loadInteger_12 (by decide) ?_
  refine lv_lload_n hx hb d_W_loadInteger_13 rfl (lv_at hl 1 rfl) ?_
  refine lv_ldc2 (v := 4294967295) hx hb hown (ha _ wm_W_13) d_W_loadInteger_14 ?_
  refine lv_land hx hb d_W_loadInteger_17 ?_
  refine ct_last hx hb hK hP hD hS 1 0 rfl rfl 0 rfl (by omega) (by omega) d_W_loadInteger_18 (fun H locs hP hD hS => ?_)
  have hP : va_P (dC, dI) cl9 [(h0, .inr (0, [.ref a0, .ref b0])), (a0, .inl (cL, 7, .inr (.inl (vp_updL (wd_fl f 0 7) 0 (x &&& 4294967295)))))] H := hP
  have hD : va_D A [(h0, .inr (0, [.ref a0, .ref b0])), (a0, .inl (cL, 7, .inr (.inl (vp_updL (wd_fl f 0 7) 0 (x &&& 4294967295)))))] := hD
  refine lv_aload_n hx hb d_W_loadInteger_19 rfl (lv_at hl 0 rfl) ?_
  refine va_get (D := (dC, dI)) (ci := 0) (v := .ref a0) (C := R_W) (T := F_W) (N := 2) hx hb ha ui_W hown hK hP 0 rfl rfl 0 (by decide) (ha _ wm_W_5) (fun _ h9 => h9) rfl d_W_loadInteger_20 ?_
  refine lv_iconst (v := 1) hx hb d_W_loadInteger_23 (by decide) ?_
  refine lv_lload_n hx hb d_W_loadInteger_24 rfl (lv_at hl 1 rfl) ?_
  refine lv_bipush (v := 32) hx hb d_W_loadInteger_25 (by decide) ?_
  refine lv_lushr (v := (pu_us x 32)) hx hb d_W_loadInteger_27 rfl ?_
  refine ct_last hx hb hK hP hD hS 1 0 rfl rfl 1 rfl (by omega) (by omega) d_W_loadInteger_28 (fun H locs hP hD hS => ?_)
  have hP : va_P (dC, dI) cl9 [(h0, .inr (0, [.ref a0, .ref b0])), (a0, .inl (cL, 7, .inr (.inl (vp_updL (vp_updL (wd_fl f 0 7) 0 (x &&& 4294967295)) 1 (pu_us x 32)))))] H := hP
  have hD : va_D A [(h0, .inr (0, [.ref a0, .ref b0])), (a0, .inl (cL, 7, .inr (.inl (vp_updL (vp_updL (wd_fl f 0 7) 0 (x &&& 4294967295)) 1 (pu_us x 32)))))] := hD
  exact ct_vret hF d_W_loadInteger_29 (wd_loadI f x) rfl (hP.sub [0, 1] rfl) (hD.sub [0, 1] (by decide) rfl) hK hS
set_option maxHeartbeats 4000000 in
set_option maxRecDepth 100000 in
/-- loadWide's loop -/
theorem lp_W_loadWide {p : Program} {l : Launch} {e : Env} {R : Room} {s : State} {m : MethodId} {args : Array Value} {below : List Frame} {meth : Method} {c : Code} {Q : State → Prop} {A : Nat → Prop} {cells slots : Nat} {dC : Nat → ClassId} {dI : Nat → Nat → Nat} {h0 : Nat} {a0 : Nat} {b0 : Nat} {h1 : Nat} {a1 : Nat} {b1 : Nat} {cL : ClassId} {f : Nat → Int64} {g : Nat → Int64} (hF : ct_F p s m meth c b_W_loadWide none 3 w_W_loadWide y_W_loadWide args) (hA : ∀ q, s.heap.size ≤ q → A q) (hK : va_K (dC, dI) cl9 [(cL, .long)] s) 
    (K : ∀ (H : Heap) (locs : List Loc) (ls : Array Slot), va_P (dC, dI) cl9 [(h0, .inr (0, [.ref a0, .ref b0])), (a0, .inl (cL, 7, .inr (.inl (wd_cp f g 7)))), (h1, .inr (0, [.ref a1, .ref b1])), (a1, .inl (cL, 7, .inr (.inl g)))] H → va_D A [(h0, .inr (0, [.ref a0, .ref b0])), (a0, .inl (cL, 7, .inr (.inl (wd_cp f g 7)))), (h1, .inr (0, [.ref a1, .ref b1])), (a1, .inl (cL, 7, .inr (.inl g)))] → va_S A s.heap H locs → lv_has ls 3 [(0, .ref h0), (1, .ref h1), (2, .int (nI 7))] → W p l e R s m args below meth c H locs cells slots Q (F0 m 26 ls [])) :
    ∀ (n9 i : Nat), i + n9 = 7 → ∀ (H : Heap) (locs : List Loc) (ls : Array Slot), va_P (dC, dI) cl9 [(h0, .inr (0, [.ref a0, .ref b0])), (a0, .inl (cL, 7, .inr (.inl (wd_cp f g i)))), (h1, .inr (0, [.ref a1, .ref b1])), (a1, .inl (cL, 7, .inr (.inl g)))] H → va_D A [(h0, .inr (0, [.ref a0, .ref b0])), (a0, .inl (cL, 7, .inr (.inl (wd_cp f g i)))), (h1, .inr (0, [.ref a1, .ref b1])), (a1, .inl (cL, 7, .inr (.inl g)))] → va_S A s.heap H locs → lv_has ls 3 [(0, .ref h0), (1, .ref h1), (2, .int (nI i))] → W p l e R s m args below meth c H locs cells slots Q (F0 m 2 ls []) := by
  obtain ⟨hx, hb, hr, hml, hts, hown, hlocks, hnm⟩ := id hF
  have hown : s.vm.findClass R_W = some m.cls := hown
  have ha : ∀ w ∈ al_W, w.before args s = true := fun w h => hts w (List.mem_cons_of_mem _ h)
  intro n9
  induction n9 with
  | zero =>
    intro i hi H locs ls hP hD hS hl
    obtain rfl : 7 = i := by omega
    refine lv_iload_n hx hb d_W_loadWide_2 rfl (lv_at hl 2 rfl) ?_
    refine lv_bipush (v := 7) hx hb d_W_loadWide_3 (by decide) ?_
    refine lv_icmp_ge (tgt := 26) hx hb d_W_loadWide_5 (by decide) (fun hc => ?_) (fun hc => ?_)
    · exact K _ _ _ hP hD hS (lv_sub hl [0, 1, 2] rfl)
    · exact absurd (show nI 7 ≤ nI 7 from nI_le (by omega) (by omega)) hc
  | succ n9 ih =>
    intro i hi H locs ls hP hD hS hl
    have hlt : i < 7 := by omega
    refine lv_iload_n hx hb d_W_loadWide_2 rfl (lv_at hl 2 rfl) ?_
    refine lv_bipush (v := 7) hx hb d_W_loadWide_3 (by decide) ?_
    refine lv_icmp_ge (tgt := 26) hx hb d_W_loadWide_5 (by decide) (fun hc => ?_) (fun hc => ?_)
    · exact absurd (show nI 7 ≤ nI i from hc) (nI_ge (by omega) (by omega))
    · refine lv_aload_n hx hb d_W_loadWide_8 rfl (lv_at hl 0 rfl) ?_
      refine va_get (D := (dC, dI)) (ci := 0) (v := .ref a0) (C := R_W) (T := F_W) (N := 2) hx hb ha ui_W hown hK hP 0 rfl rfl 0 (by decide) (ha _ wm_W_5) (fun _ h9 => h9) rfl d_W_loadWide_9 ?_
      refine lv_iload_n hx hb d_W_loadWide_12 rfl (lv_at hl 2 rfl) ?_
      refine lv_aload_n hx hb d_W_loadWide_13 rfl (lv_at hl 1 rfl) ?_
      refine va_get (D := (dC, dI)) (ci := 0) (v := .ref a1) (C := R_W) (T := F_W) (N := 2) hx hb ha ui_W hown hK hP 2 rfl rfl 0 (by decide) (ha _ wm_W_5) (fun _ h9 => h9) rfl d_W_loadWide_14 ?_
      refine lv_iload_n hx hb d_W_loadWide_17 rfl (lv_at hl 2 rfl) ?_
      refine ct_lald hx hb hK hP 3 0 rfl rfl i rfl (by omega) (by omega) d_W_loadWide_18 ?_
      refine ct_last hx hb hK hP hD hS 1 0 rfl rfl i rfl (by omega) (by omega) d_W_loadWide_19 (fun H locs hP hD hS => ?_)
      have hP : va_P (dC, dI) cl9 [(h0, .inr (0, [.ref a0, .ref b0])), (a0, .inl (cL, 7, .inr (.inl (vp_updL (wd_cp f g i) i (g i))))), (h1, .inr (0, [.ref a1, .ref b1])), (a1, .inl (cL, 7, .inr (.inl g)))] H := hP
      have hD : va_D A [(h0, .inr (0, [.ref a0, .ref b0])), (a0, .inl (cL, 7, .inr (.inl (vp_updL (wd_cp f g i) i (g i))))), (h1, .inr (0, [.ref a1, .ref b1])), (a1, .inl (cL, 7, .inr (.inl g)))] := hD
      refine lv_iinc (v := (nI (i + 1))) (lv' := [(2, .int (nI (i + 1))), (0, .ref h0), (1, .ref h1)]) hx hb d_W_loadWide_20 hl (k := 2) rfl (by exact nI_1 i) (by decide) rfl (fun ls hl => ?_)
      refine lv_goto (tgt := 2) hx hb d_W_loadWide_23 (by decide) ?_
      rw [wd_cp_s] at hP hD
      exact ih (i + 1) (by omega) _ _ _ hP hD hS (lv_sub hl [1, 2, 0] rfl)
set_option maxHeartbeats 4000000 in
set_option maxRecDepth 100000 in
/-- this becomes other -/
theorem c_W_loadWide (l : Launch) (dC : Nat → ClassId) (dI : Nat → Nat → Nat) (h0 a0 b0 h1 a1 b1 : Nat) (cL : ClassId) (f g : Nat → Int64) (sz : Nat) : ct_V l y_W_loadWide w_W_loadWide { frames := 0, cells := 0, slots := 0, locals := 0 } (dC, dI) cl9 [(cL, .long)] ct_G0 [.ref h0, .ref h1] [(h0, .inr (0, [.ref a0, .ref b0])), (a0, .inl (cL, 7, .inr (.inl f))), (h1, .inr (0, [.ref a1, .ref b1])), (a1, .inl (cL, 7, .inr (.inl g)))] sz (S := Nat → Int64) (fun u => u = wd_cp f g 7) (fun _ => [(cL, .long)]) (fun u => [(h0, .inr (0, [.ref a0, .ref b0])), (a0, .inl (cL, 7, .inr (.inl u))), (h1, .inr (0, [.ref a1, .ref b1])), (a1, .inl (cL, 7, .inr (.inl g)))]) 0 0 := by
  refine ct_of (Qf := fun A => va_Qv (fun u => u = wd_cp f g 7) (ct_B (S := Nat → Int64) (dC, dI) cl9 (fun _ => [(cL, .long)]) A (fun u => [(h0, .inr (0, [.ref a0, .ref b0])), (a0, .inl (cL, 7, .inr (.inl u))), (h1, .inr (0, [.ref a1, .ref b1])), (a1, .inl (cL, 7, .inr (.inl g)))])) A) (cc := b_W_loadWide) (maxL := 3) (ret := none) (by decide) rfl (Nat.le_of_ble_eq_true rfl) ?_
  intro p e s m below meth c A ls hF hA hP hK hD hG hS hl
  obtain ⟨hx, hb, hr, hml, hts, hown, hlocks, hnm⟩ := id hF
  have hown : s.vm.findClass R_W = some m.cls := hown
  have ha : ∀ w ∈ al_W, w.before [.ref h0, .ref h1].toArray s = true := fun w h => hts w (List.mem_cons_of_mem _ h)
  have hl : lv_has ls 3 [(0, .ref h0), (1, .ref h1)] := hl
  refine lv_iconst (v := 0) hx hb d_W_loadWide_0 (by decide) ?_
  refine lv_istore_n (lv' := [(2, .int 0), (0, .ref h0), (1, .ref h1)]) hx hb d_W_loadWide_1 rfl hl (by decide) rfl (fun ls hl => ?_)
  rw [← wd_cp_0 f g] at hP hD
  refine lp_W_loadWide (h0 := h0) (a0 := a0) (b0 := b0) (h1 := h1) (a1 := a1) (b1 := b1) (cL := cL) (f := f) (g := g) hF hA hK (fun H locs ls hP hD hS hl => ?_) 7 0 (by omega) _ _ _ hP hD hS (lv_sub hl [1, 2, 0] rfl)
  exact ct_vret hF d_W_loadWide_26 (wd_cp f g 7) rfl (hP.sub [0, 1, 2, 3] rfl) (hD.sub [0, 1, 2, 3] (by decide) rfl) hK hS
set_option maxHeartbeats 4000000 in
set_option maxRecDepth 100000 in
/-- isZero's loop -/
theorem lp_W_isZero {p : Program} {l : Launch} {e : Env} {R : Room} {s : State} {m : MethodId} {args : Array Value} {below : List Frame} {meth : Method} {c : Code} {Q : State → Prop} {A : Nat → Prop} {cells slots : Nat} {dC : Nat → ClassId} {dI : Nat → Nat → Nat} {h0 : Nat} {a0 : Nat} {b0 : Nat} {cL : ClassId} {f : Nat → Int64} (hF : ct_F p s m meth c b_W_isZero ((some .boolean)) 2 w_W_isZero y_W_isZero args) (hA : ∀ q, s.heap.size ≤ q → A q) (hK : va_K (dC, dI) cl9 [(cL, .long)] s) (Kx : ∀ (i : Nat), i < 7 → ¬ f i = 0 → ∀ (H : Heap) (locs : List Loc) (ls : Array Slot), va_P (dC, dI) cl9 [(h0, .inr (0, [.ref a0, .ref b0])), (a0, .inl (cL, 7, .inr (.inl f)))] H → va_D A [(h0, .inr (0, [.ref a0, .ref b0])), (a0, .inl (cL, 7, .inr (.inl f)))] → va_S A s.heap H locs → W p l e R s m args below meth c H locs cells slots Q (F0 m 19 ls []))
    (K : (∀ j, j < 7 → f j = 0) → ∀ (H : Heap) (locs : List Loc) (ls : Array Slot), va_P (dC, dI) cl9 [(h0, .inr (0, [.ref a0, .ref b0])), (a0, .inl (cL, 7, .inr (.inl f)))] H → va_D A [(h0, .inr (0, [.ref a0, .ref b0])), (a0, .inl (cL, 7, .inr (.inl f)))] → va_S A s.heap H locs → lv_has ls 2 [(0, .ref h0), (1, .int (nI 7))] → W p l e R s m args below meth c H locs cells slots Q (F0 m 27 ls [])) :
    ∀ (n9 i : Nat), i + n9 = 7 → (∀ j, j < i → f j = 0) → ∀ (H : Heap) (locs : List Loc) (ls : Array Slot), va_P (dC, dI) cl9 [(h0, .inr (0, [.ref a0, .ref b0])), (a0, .inl (cL, 7, .inr (.inl f)))] H → va_D A [(h0, .inr (0, [.ref a0, .ref b0])), (a0, .inl (cL, 7, .inr (.inl f)))] → va_S A s.heap H locs → lv_has ls 2 [(0, .ref h0), (1, .int (nI i))] → W p l e R s m args below meth c H locs cells slots Q (F0 m 2 ls []) := by
  obtain ⟨hx, hb, hr, hml, hts, hown, hlocks, hnm⟩ := id hF
  have hown : s.vm.findClass R_W = some m.cls := hown
  have ha : ∀ w ∈ al_W, w.before args s = true := fun w h => hts w (List.mem_cons_of_mem _ h)
  intro n9
  induction n9 with
  | zero =>
    intro i hi hinv H locs ls hP hD hS hl
    obtain rfl : 7 = i := by omega
    refine lv_iload_n hx hb d_W_isZero_2 rfl (lv_at hl 1 rfl) ?_
    refine lv_bipush (v := 7) hx hb d_W_isZero_3 (by decide) ?_
    refine lv_icmp_ge (tgt := 27) hx hb d_W_isZero_5 (by decide) (fun hc => ?_) (fun hc => ?_)
    · exact K hinv _ _ _ hP hD hS (lv_sub hl [0, 1] rfl)
    · exact absurd (show nI 7 ≤ nI 7 from nI_le (by omega) (by omega)) hc
  | succ n9 ih =>
    intro i hi hinv H locs ls hP hD hS hl
    have hlt : i < 7 := by omega
    refine lv_iload_n hx hb d_W_isZero_2 rfl (lv_at hl 1 rfl) ?_
    refine lv_bipush (v := 7) hx hb d_W_isZero_3 (by decide) ?_
    refine lv_icmp_ge (tgt := 27) hx hb d_W_isZero_5 (by decide) (fun hc => ?_) (fun hc => ?_)
    · exact absurd (show nI 7 ≤ nI i from hc) (nI_ge (by omega) (by omega))
    · refine lv_aload_n hx hb d_W_isZero_8 rfl (lv_at hl 0 rfl) ?_
      refine va_get (D := (dC, dI)) (ci := 0) (v := .ref a0) (C := R_W) (T := F_W) (N := 2) hx hb ha ui_W hown hK hP 0 rfl rfl 0 (by decide) (ha _ wm_W_5) (fun _ h9 => h9) rfl d_W_isZero_9 ?_
      refine lv_iload_n hx hb d_W_isZero_12 rfl (lv_at hl 1 rfl) ?_
      refine ct_lald hx hb hK hP 1 0 rfl rfl i rfl (by omega) (by omega) d_W_isZero_13 ?_
      refine lv_lconst (v := 0) hx hb d_W_isZero_14 (by decide) ?_
      refine ct_jeq (tgt := 21) hx hb d_W_isZero_15 d_W_isZero_16 (by decide) (fun hz => ?_) (fun hz => ?_)
      · refine lv_iinc (v := (nI (i + 1))) (lv' := [(1, .int (nI (i + 1))), (0, .ref h0)]) hx hb d_W_isZero_21 hl (k := 1) rfl (by exact nI_1 i) (by decide) rfl (fun ls hl => ?_)
        refine lv_goto (tgt := 2) hx hb d_W_isZero_24 (by decide) ?_
        exact ih (i + 1) (by omega) (fun j hj => by rcases Nat.lt_or_ge j i with q | q; exact hinv j q; rw [show j = i by omega]; exact hz) _ _ _ hP hD hS (lv_sub hl [1, 0] rfl)
      · exact Kx i hlt hz _ _ _ hP hD hS
set_option maxHeartbeats 4000000 in
set_option maxRecDepth 100000 in
/-- whether this is 0 -/
theorem c_W_isZero (l : Launch) (dC : Nat → ClassId) (dI : Nat → Nat → Nat) (h0 a0 b0 : Nat) (cL : ClassId) (f : Nat → Int64) (sz : Nat) : ct_I l y_W_isZero w_W_isZero { frames := 0, cells := 0, slots := 0, locals := 0 } (dC, dI) cl9 [(cL, .long)] ct_G0 [.ref h0] [(h0, .inr (0, [.ref a0, .ref b0])), (a0, .inl (cL, 7, .inr (.inl f)))] sz (S := Unit) (fun r _ => r = wd_z f) (fun _ => [(cL, .long)]) (fun _ => [(h0, .inr (0, [.ref a0, .ref b0])), (a0, .inl (cL, 7, .inr (.inl f)))]) 0 0 := by
  refine ct_of (Qf := fun A => va_Qi (fun r _ => r = wd_z f) (ct_B (S := Unit) (dC, dI) cl9 (fun _ => [(cL, .long)]) A (fun _ => [(h0, .inr (0, [.ref a0, .ref b0])), (a0, .inl (cL, 7, .inr (.inl f)))])) A) (cc := b_W_isZero) (maxL := 2) (ret := ((some .boolean))) (by decide) rfl (Nat.le_of_ble_eq_true rfl) ?_
  intro p e s m below meth c A ls hF hA hP hK hD hG hS hl
  obtain ⟨hx, hb, hr, hml, hts, hown, hlocks, hnm⟩ := id hF
  have hown : s.vm.findClass R_W = some m.cls := hown
  have ha : ∀ w ∈ al_W, w.before [.ref h0].toArray s = true := fun w h => hts w (List.mem_cons_of_mem _ h)
  have hl : lv_has ls 2 [(0, .ref h0)] := hl
  refine lv_iconst (v := 0) hx hb d_W_isZero_0 (by decide) ?_
  refine lv_istore_n (lv' := [(1, .int 0), (0, .ref h0)]) hx hb d_W_isZero_1 rfl hl (by decide) rfl (fun ls hl => ?_)
  refine lp_W_isZero (h0 := h0) (a0 := a0) (b0 := b0) (cL := cL) (f := f) hF hA hK (fun i hi hz H locs ls hP hD hS => ?_) (fun hinv H locs ls hP hD hS hl => ?_) 7 0 (by omega) (fun j hj => absurd hj (Nat.not_lt_zero j)) _ _ _ hP hD hS (lv_sub hl [1, 0] rfl)
  · refine lv_iconst (v := 0) hx hb d_W_isZero_19 (by decide) ?_
    exact ct_zret hF d_W_isZero_20 (by decide) () (wd_z_0 hi hz).symm (hP.sub [0, 1] rfl) (hD.sub [0, 1] (by decide) rfl) hK hS
  · refine lv_iconst (v := 1) hx hb d_W_isZero_27 (by decide) ?_
    exact ct_zret hF d_W_isZero_28 (by decide) () (wd_z_1 hinv).symm (hP.sub [0, 1] rfl) (hD.sub [0, 1] (by decide) rfl) hK hS
set_option maxHeartbeats 4000000 in
set_option maxRecDepth 100000 in
/-- whether the highest bit stands -/
theorem c_W_isNegative (l : Launch) (dC : Nat → ClassId) (dI : Nat → Nat → Nat) (h0 a0 b0 : Nat) (cL : ClassId) (f : Nat → Int64) (sz : Nat) : ct_I l y_W_isNegative w_W_isNegative { frames := 0, cells := 0, slots := 0, locals := 0 } (dC, dI) cl9 [(cL, .long)] ct_G0 [.ref h0] [(h0, .inr (0, [.ref a0, .ref b0])), (a0, .inl (cL, 7, .inr (.inl f)))] sz (S := Unit) (fun r _ => r = wd_ng f) (fun _ => [(cL, .long)]) (fun _ => [(h0, .inr (0, [.ref a0, .ref b0])), (a0, .inl (cL, 7, .inr (.inl f)))]) 0 0 := by
  refine ct_of (Qf := fun A => va_Qi (fun r _ => r = wd_ng f) (ct_B (S := Unit) (dC, dI) cl9 (fun _ => [(cL, .long)]) A (fun _ => [(h0, .inr (0, [.ref a0, .ref b0])), (a0, .inl (cL, 7, .inr (.inl f)))])) A) (cc := b_W_isNegative) (maxL := 1) (ret := ((some .boolean))) (by decide) rfl (Nat.le_of_ble_eq_true rfl) ?_
  intro p e s m below meth c A ls hF hA hP hK hD hG hS hl
  obtain ⟨hx, hb, hr, hml, hts, hown, hlocks, hnm⟩ := id hF
  have hown : s.vm.findClass R_W = some m.cls := hown
  have ha : ∀ w ∈ al_W, w.before [.ref h0].toArray s = true := fun w h => hts w (List.mem_cons_of_mem _ h)
  have hl : lv_has ls 1 [(0, .ref h0)] := hl
  refine lv_aload_n hx hb d_W_isNegative_0 rfl (lv_at hl 0 rfl) ?_
  refine va_get (D := (dC, dI)) (ci := 0) (v := .ref a0) (C := R_W) (T := F_W) (N := 2) hx hb ha ui_W hown hK hP 0 rfl rfl 0 (by decide) (ha _ wm_W_5) (fun _ h9 => h9) rfl d_W_isNegative_1 ?_
  refine lv_bipush (v := 6) hx hb d_W_isNegative_4 (by decide) ?_
  refine ct_lald hx hb hK hP 1 0 rfl rfl 6 rfl (by omega) (by omega) d_W_isNegative_6 ?_
  refine lv_ldc2 (v := 2147483648) hx hb hown (ha _ wm_W_72) d_W_isNegative_7 ?_
  refine lv_land hx hb d_W_isNegative_10 ?_
  refine lv_lconst (v := 0) hx hb d_W_isNegative_11 (by decide) ?_
  refine ct_jeq (tgt := 20) hx hb d_W_isNegative_12 d_W_isNegative_13 (by decide) (fun hc => ?_) (fun hc => ?_)
  · refine lv_iconst (v := 0) hx hb d_W_isNegative_20 (by decide) ?_
    exact ct_zret hF d_W_isNegative_21 (by decide) () (if_pos hc).symm (hP.sub [0, 1] rfl) (hD.sub [0, 1] (by decide) rfl) hK hS
  · refine lv_iconst (v := 1) hx hb d_W_isNegative_16 (by decide) ?_
    refine lv_goto (tgt := 21) hx hb d_W_isNegative_17 (by decide) ?_
    exact ct_zret hF d_W_isNegative_21 (by decide) () (if_neg hc).symm (hP.sub [0, 1] rfl) (hD.sub [0, 1] (by decide) rfl) hK hS
set_option maxHeartbeats 4000000 in
set_option maxRecDepth 100000 in
/-- what is before the point -/
theorem c_W_whole (l : Launch) (dC : Nat → ClassId) (dI : Nat → Nat → Nat) (h0 a0 b0 : Nat) (cL : ClassId) (f : Nat → Int64) (sz : Nat) : ct_L l y_W_whole w_W_whole { frames := 0, cells := 0, slots := 0, locals := 0 } (dC, dI) cl9 [(cL, .long)] ct_G0 [.ref h0] [(h0, .inr (0, [.ref a0, .ref b0])), (a0, .inl (cL, 7, .inr (.inl f)))] sz (S := Unit) (fun r _ => r = wd_wh f) (fun _ => [(cL, .long)]) (fun _ => [(h0, .inr (0, [.ref a0, .ref b0])), (a0, .inl (cL, 7, .inr (.inl f)))]) 0 0 := by
  refine ct_of (Qf := fun A => va_Ql (fun r _ => r = wd_wh f) (ct_B (S := Unit) (dC, dI) cl9 (fun _ => [(cL, .long)]) A (fun _ => [(h0, .inr (0, [.ref a0, .ref b0])), (a0, .inl (cL, 7, .inr (.inl f)))])) A) (cc := b_W_whole) (maxL := 1) (ret := ((some .long))) (by decide) rfl (Nat.le_of_ble_eq_true rfl) ?_
  intro p e s m below meth c A ls hF hA hP hK hD hG hS hl
  obtain ⟨hx, hb, hr, hml, hts, hown, hlocks, hnm⟩ := id hF
  have hown : s.vm.findClass R_W = some m.cls := hown
  have ha : ∀ w ∈ al_W, w.before [.ref h0].toArray s = true := fun w h => hts w (List.mem_cons_of_mem _ h)
  have hl : lv_has ls 1 [(0, .ref h0)] := hl
  refine lv_aload_n hx hb d_W_whole_0 rfl (lv_at hl 0 rfl) ?_
  refine va_get (D := (dC, dI)) (ci := 0) (v := .ref a0) (C := R_W) (T := F_W) (N := 2) hx hb ha ui_W hown hK hP 0 rfl rfl 0 (by decide) (ha _ wm_W_5) (fun _ h9 => h9) rfl d_W_whole_1 ?_
  refine lv_bipush (v := 6) hx hb d_W_whole_4 (by decide) ?_
  refine ct_lald hx hb hK hP 1 0 rfl rfl 6 rfl (by omega) (by omega) d_W_whole_6 ?_
  refine lv_bipush (v := 32) hx hb d_W_whole_7 (by decide) ?_
  refine lv_lshl (v := (pu_sl (f 6) 32)) hx hb d_W_whole_9 rfl ?_
  refine lv_aload_n hx hb d_W_whole_10 rfl (lv_at hl 0 rfl) ?_
  refine va_get (D := (dC, dI)) (ci := 0) (v := .ref a0) (C := R_W) (T := F_W) (N := 2) hx hb ha ui_W hown hK hP 0 rfl rfl 0 (by decide) (ha _ wm_W_5) (fun _ h9 => h9) rfl d_W_whole_11 ?_
  refine lv_iconst (v := 5) hx hb d_W_whole_14 (by decide) ?_
  refine ct_lald hx hb hK hP 1 0 rfl rfl 5 rfl (by omega) (by omega) d_W_whole_15 ?_
  refine lv_lor hx hb d_W_whole_16 ?_
  exact ct_lret hF d_W_whole_17 () rfl (hP.sub [0, 1] rfl) (hD.sub [0, 1] (by decide) rfl) hK hS
set_option maxHeartbeats 4000000 in
set_option maxRecDepth 100000 in
/-- this + other, or this - other -/
theorem c_W_addOrSubtract (l : Launch) (dC : Nat → ClassId) (dI : Nat → Nat → Nat) (h0 a0 b0 h1 a1 b1 : Nat) (cL : ClassId) (f g : Nat → Int64) (z : Int32) (sz : Nat) : ct_V l y_W_addOrSubtract w_W_addOrSubtract { frames := 1, cells := 0, slots := 0, locals := 26 } (dC, dI) cl9 [(cL, .long)] ct_G0 [.ref h0, .ref h1, .int z] [(h0, .inr (0, [.ref a0, .ref b0])), (a0, .inl (cL, 7, .inr (.inl f))), (h1, .inr (0, [.ref a1, .ref b1])), (a1, .inl (cL, 7, .inr (.inl g)))] sz (S := Nat → Int64) (fun u => u = if z = 0 then (wd_add f g 7).1 else (wd_sub f g 7).1) (fun _ => [(cL, .long)]) (fun u => [(h0, .inr (0, [.ref a0, .ref b0])), (a0, .inl (cL, 7, .inr (.inl u))), (h1, .inr (0, [.ref a1, .ref b1])), (a1, .inl (cL, 7, .inr (.inl g)))]) 0 0 := by
  refine ct_of (Qf := fun A => va_Qv (fun u => u = if z = 0 then (wd_add f g 7).1 else (wd_sub f g 7).1) (ct_B (S := Nat → Int64) (dC, dI) cl9 (fun _ => [(cL, .long)]) A (fun u => [(h0, .inr (0, [.ref a0, .ref b0])), (a0, .inl (cL, 7, .inr (.inl u))), (h1, .inr (0, [.ref a1, .ref b1])), (a1, .inl (cL, 7, .inr (.inl g)))])) A) (cc := b_W_addOrSubtract) (maxL := 3) (ret := none) (by decide) rfl (Nat.le_of_ble_eq_true rfl) ?_
  intro p e s m below meth c A ls hF hA hP hK hD hG hS hl
  obtain ⟨hx, hb, hr, hml, hts, hown, hlocks, hnm⟩ := id hF
  have hown : s.vm.findClass R_W = some m.cls := hown
  have ha : ∀ w ∈ al_W, w.before [.ref h0, .ref h1, .int z].toArray s = true := fun w h => hts w (List.mem_cons_of_mem _ h)
  have hl : lv_has ls 3 [(0, .ref h0), (1, .ref h1), (2, .int z)] := hl
  refine lv_iload_n hx hb d_W_addOrSubtract_0 rfl (lv_at hl 2 rfl) ?_
  refine lv_if_eq (tgt := 12) hx hb d_W_addOrSubtract_1 (by decide) (fun hc => ?_) (fun hc => ?_)
  · refine lv_aload_n hx hb d_W_addOrSubtract_12 rfl (lv_at hl 0 rfl) ?_
    refine lv_aload_n hx hb d_W_addOrSubtract_13 rfl (lv_at hl 1 rfl) ?_
    refine cs_callv (va_runV (As := [.ref h1]) (rest := []) ⟨hx, hb, hml, hown, ha⟩ (c_W_add l dC dI h0 a0 b0 h1 a1 b1 cL f g _) (cwV 1 ha g_W_W_add rfl rfl rfl (by decide +kernel) ⟨Nat.le_of_ble_eq_true rfl, Nat.le_of_ble_eq_true rfl⟩) (ct_preV ct_G0ok trivial hK hP hD hS hA [0, 1, 2, 3] rfl (by decide) [0] rfl 0 0 rfl rfl rfl) rfl rfl hl.1 rfl (lv_room (Nat.le_of_ble_eq_true rfl)) d_W_addOrSubtract_14 ⟨Nat.le_of_ble_eq_true rfl, Nat.le_of_ble_eq_true rfl⟩) hP hD hS hA [0, 1, 2, 3] rfl (by decide) (fun _ => rfl) (fun u H locs hw hP hD hS => ?_)
    have hP : va_P (dC, dI) cl9 [(h0, .inr (0, [.ref a0, .ref b0])), (a0, .inl (cL, 7, .inr (.inl u))), (h1, .inr (0, [.ref a1, .ref b1])), (a1, .inl (cL, 7, .inr (.inl g)))] H := hP
    have hD : va_D A [(h0, .inr (0, [.ref a0, .ref b0])), (a0, .inl (cL, 7, .inr (.inl u))), (h1, .inr (0, [.ref a1, .ref b1])), (a1, .inl (cL, 7, .inr (.inl g)))] := hD
    exact ct_vret hF d_W_addOrSubtract_17 u (hw.trans (if_pos hc).symm) (hP.sub [0, 1, 2, 3] rfl) (hD.sub [0, 1, 2, 3] (by decide) rfl) hK hS
  · refine lv_aload_n hx hb d_W_addOrSubtract_4 rfl (lv_at hl 0 rfl) ?_
    refine lv_aload_n hx hb d_W_addOrSubtract_5 rfl (lv_at hl 1 rfl) ?_
    refine cs_callv (va_runV (As := [.ref h1]) (rest := []) ⟨hx, hb, hml, hown, ha⟩ (c_W_subtract l dC dI h0 a0 b0 h1 a1 b1 cL f g _) (cwV 1 ha g_W_W_subtract rfl rfl rfl (by decide +kernel) ⟨Nat.le_of_ble_eq_true rfl, Nat.le_of_ble_eq_true rfl⟩) (ct_preV ct_G0ok trivial hK hP hD hS hA [0, 1, 2, 3] rfl (by decide) [0] rfl 0 0 rfl rfl rfl) rfl rfl hl.1 rfl (lv_room (Nat.le_of_ble_eq_true rfl)) d_W_addOrSubtract_6 ⟨Nat.le_of_ble_eq_true rfl, Nat.le_of_ble_eq_true rfl⟩) hP hD hS hA [0, 1, 2, 3] rfl (by decide) (fun _ => rfl) (fun u H locs hw hP hD hS => ?_)
    have hP : va_P (dC, dI) cl9 [(h0, .inr (0, [.ref a0, .ref b0])), (a0, .inl (cL, 7, .inr (.inl u))), (h1, .inr (0, [.ref a1, .ref b1])), (a1, .inl (cL, 7, .inr (.inl g)))] H := hP
    have hD : va_D A [(h0, .inr (0, [.ref a0, .ref b0])), (a0, .inl (cL, 7, .inr (.inl u))), (h1, .inr (0, [.ref a1, .ref b1])), (a1, .inl (cL, 7, .inr (.inl g)))] := hD
    refine lv_goto (tgt := 17) hx hb d_W_addOrSubtract_9 (by decide) ?_
    exact ct_vret hF d_W_addOrSubtract_17 u (hw.trans (if_neg hc).symm) (hP.sub [0, 1, 2, 3] rfl) (hD.sub [0, 1, 2, 3] (by decide) rfl) hK hS
