set_option maxHeartbeats 4000000 in
set_option maxRecDepth 100000 in
/-- Arrays.fill's loop -/
theorem lp_fill {p : Program} {l : Launch} {e : Env} {R : Room} {s : State} {m : MethodId} {args : Array Value} {below : List Frame} {meth : Method} {c : Code} {Q : State → Prop} {A : Nat → Prop} {cells slots : Nat} {dC : Nat → ClassId} {dI : Nat → Nat → Nat} {a0 : Nat} {cL : ClassId} {n : Nat} {f : Nat → Int64} {v : Int64} (hF : ct_F p s m meth c b_fill none 5 w_fill y_fill args) (hA : ∀ q, s.heap.size ≤ q → A q) (hK : va_K (dC, dI) cl9 [(cL, .long)] s) (hn : n < 2 ^ 31)
    (K : ∀ (H : Heap) (locs : List Loc) (ls : Array Slot), va_P (dC, dI) cl9 [(a0, .inl (cL, n, .inr (.inl (wd_fl f v n))))] H → va_D A [(a0, .inl (cL, n, .inr (.inl (wd_fl f v n))))] → va_S A s.heap H locs → lv_has ls 5 [(0, .ref a0), (1, .long v), (3, .int (nI n)), (4, .int (nI n))] → W p l e R s m args below meth c H locs cells slots Q (F0 m 22 ls [])) :
    ∀ (n9 i : Nat), i + n9 = n → ∀ (H : Heap) (locs : List Loc) (ls : Array Slot), va_P (dC, dI) cl9 [(a0, .inl (cL, n, .inr (.inl (wd_fl f v i))))] H → va_D A [(a0, .inl (cL, n, .inr (.inl (wd_fl f v i))))] → va_S A s.heap H locs → lv_has ls 5 [(0, .ref a0), (1, .long v), (3, .int (nI i)), (4, .int (nI n))] → W p l e R s m args below meth c H locs cells slots Q (F0 m 6 ls []) := by
  obtain ⟨hx, hb, hr, hml, hts, hown, hlocks, hnm⟩ := id hF
  have hown : s.vm.findClass "java/util/Arrays" = some m.cls := hown
  intro n9
  induction n9 with
  | zero =>
    intro i hi H locs ls hP hD hS hl
    obtain rfl : n = i := by omega
    refine lv_iload_n hx hb d_fill_6 rfl (lv_at hl 2 rfl) ?_
    refine lv_iload hx hb d_fill_7 (lv_at hl 3 rfl) ?_
    refine lv_icmp_ge (tgt := 22) hx hb d_fill_9 (by decide) (fun hc => ?_) (fun hc => ?_)
    · exact K _ _ _ hP hD hS (lv_sub hl [0, 1, 2, 3] rfl)
    · exact absurd (show nI n ≤ nI n from nI_le (Nat.le_refl _) hn) hc
  | succ n9 ih =>
    intro i hi H locs ls hP hD hS hl
    have hlt : i < n := by omega
    refine lv_iload_n hx hb d_fill_6 rfl (lv_at hl 2 rfl) ?_
    refine lv_iload hx hb d_fill_7 (lv_at hl 3 rfl) ?_
    refine lv_icmp_ge (tgt := 22) hx hb d_fill_9 (by decide) (fun hc => ?_) (fun hc => ?_)
    · exact absurd (show nI n ≤ nI i from hc) (nI_ge hlt hn)
    · refine lv_aload_n hx hb d_fill_12 rfl (lv_at hl 0 rfl) ?_
      refine lv_iload_n hx hb d_fill_13 rfl (lv_at hl 2 rfl) ?_
      refine lv_lload_n hx hb d_fill_14 rfl (lv_at hl 1 rfl) ?_
      refine ct_last hx hb hK hP hD hS 0 0 rfl rfl i rfl (by omega) (by omega) d_fill_15 (fun H locs hP hD hS => ?_)
      have hP : va_P (dC, dI) cl9 [(a0, .inl (cL, n, .inr (.inl (vp_updL (wd_fl f v i) i v))))] H := hP
      have hD : va_D A [(a0, .inl (cL, n, .inr (.inl (vp_updL (wd_fl f v i) i v))))] := hD
      refine lv_iinc (v := (nI (i + 1))) (lv' := [(3, .int (nI (i + 1))), (0, .ref a0), (1, .long v), (4, .int (nI n))]) hx hb d_fill_16 hl (k := 2) rfl (by exact nI_1 i) (by decide) rfl (fun ls hl => ?_)
      refine lv_goto (tgt := 6) hx hb d_fill_19 (by decide) ?_
      rw [wd_fl_s] at hP hD
      exact ih (i + 1) (by omega) _ _ _ hP hD hS (lv_sub hl [1, 2, 0, 3] rfl)
set_option maxHeartbeats 4000000 in
set_option maxRecDepth 100000 in
/-- Arrays.fill(a, v): every place holds v -/
theorem c_fill (l : Launch) (dC : Nat → ClassId) (dI : Nat → Nat → Nat) (a0 : Nat) (cL : ClassId) (n : Nat) (hn : n < 2 ^ 31) (f : Nat → Int64) (v : Int64) (sz : Nat) : ct_V l y_fill w_fill { frames := 0, cells := 0, slots := 0, locals := 0 } (dC, dI) cl9 [(cL, .long)] ct_G0 [.ref a0, .long v] [(a0, .inl (cL, n, .inr (.inl f)))] sz (S := Nat → Int64) (fun u => u = wd_fl f v n) (fun _ => [(cL, .long)]) (fun u => [(a0, .inl (cL, n, .inr (.inl u)))]) 0 0 := by
  refine ct_of (Qf := fun A => va_Qv (fun u => u = wd_fl f v n) (ct_B (S := Nat → Int64) (dC, dI) cl9 (fun _ => [(cL, .long)]) A (fun u => [(a0, .inl (cL, n, .inr (.inl u)))])) A) (cc := b_fill) (maxL := 5) (ret := none) (by decide) rfl (Nat.le_of_ble_eq_true rfl) ?_
  intro p e s m below meth c A ls hF hA hP hK hD hG hS hl
  obtain ⟨hx, hb, hr, hml, hts, hown, hlocks, hnm⟩ := id hF
  have hown : s.vm.findClass "java/util/Arrays" = some m.cls := hown
  have hl : lv_has ls 5 [(0, .ref a0), (1, .long v)] := hl
  refine lv_iconst (v := 0) hx hb d_fill_0 (by decide) ?_
  refine lv_istore_n (lv' := [(3, .int 0), (0, .ref a0), (1, .long v)]) hx hb d_fill_1 rfl hl (by decide) rfl (fun ls hl => ?_)
  refine lv_aload_n hx hb d_fill_2 rfl (lv_at hl 1 rfl) ?_
  refine va_alen (v := (nI n)) hx hb hK hP 0 0 rfl rfl rfl d_fill_3 ?_
  refine lv_istore (lv' := [(4, .int (nI n)), (3, .int 0), (0, .ref a0), (1, .long v)]) hx hb d_fill_4 hl (by decide) rfl (fun ls hl => ?_)
  rw [← wd_fl_0 f v] at hP hD
  refine lp_fill (a0 := a0) (cL := cL) (n := n) (f := f) (v := v) hF hA hK hn (fun H locs ls hP hD hS hl => ?_) n 0 (by omega) _ _ _ hP hD hS (lv_sub hl [2, 3, 1, 0] rfl)
  exact ct_vret hF d_fill_22 (wd_fl f v n) rfl (hP.sub [0] rfl) (hD.sub [0] (by decide) rfl) hK hS
set_option maxHeartbeats 4000000 in
set_option maxRecDepth 100000 in
/-- add's loop -/
theorem lp_W_add {p : Program} {l : Launch} {e : Env} {R : Room} {s : State} {m : MethodId} {args : Array Value} {below : List Frame} {meth : Method} {c : Code} {Q : State → Prop} {A : Nat → Prop} {cells slots : Nat} {dC : Nat → ClassId} {dI : Nat → Nat → Nat} {h0 : Nat} {a0 : Nat} {b0 : Nat} {h1 : Nat} {a1 : Nat} {b1 : Nat} {cL : ClassId} {f : Nat → Int64} {g : Nat → Int64} (hF : ct_F p s m meth c b_W_add none 7 w_W_add y_W_add args) (hA : ∀ q, s.heap.size ≤ q → A q) (hK : va_K (dC, dI) cl9 [(cL, .long)] s) 
    (K : ∀ (H : Heap) (locs : List Loc) (ls : Array Slot), va_P (dC, dI) cl9 [(h0, .inr (0, [.ref a0, .ref b0])), (a0, .inl (cL, 7, .inr (.inl ((wd_add f g 7).1)))), (h1, .inr (0, [.ref a1, .ref b1])), (a1, .inl (cL, 7, .inr (.inl g)))] H → va_D A [(h0, .inr (0, [.ref a0, .ref b0])), (a0, .inl (cL, 7, .inr (.inl ((wd_add f g 7).1)))), (h1, .inr (0, [.ref a1, .ref b1])), (a1, .inl (cL, 7, .inr (.inl g)))] → va_S A s.heap H locs → lv_has ls 7 [(0, .ref h0), (1, .ref h1), (2, .long ((wd_add f g 7).2)), (4, .int (nI 7))] → W p l e R s m args below meth c H locs cells slots Q (F0 m 56 ls [])) :
    ∀ (n9 i : Nat), i + n9 = 7 → ∀ (H : Heap) (locs : List Loc) (ls : Array Slot), va_P (dC, dI) cl9 [(h0, .inr (0, [.ref a0, .ref b0])), (a0, .inl (cL, 7, .inr (.inl ((wd_add f g i).1)))), (h1, .inr (0, [.ref a1, .ref b1])), (a1, .inl (cL, 7, .inr (.inl g)))] H → va_D A [(h0, .inr (0, [.ref a0, .ref b0])), (a0, .inl (cL, 7, .inr (.inl ((wd_add f g i).1)))), (h1, .inr (0, [.ref a1, .ref b1])), (a1, .inl (cL, 7, .inr (.inl g)))] → va_S A s.heap H locs → lv_has ls 7 [(0, .ref h0), (1, .ref h1), (2, .long ((wd_add f g i).2)), (4, .int (nI i))] → W p l e R s m args below meth c H locs cells slots Q (F0 m 5 ls []) := by
  obtain ⟨hx, hb, hr, hml, hts, hown, hlocks, hnm⟩ := id hF
  have hown : s.vm.findClass R_W = some m.cls := hown
  have ha : ∀ w ∈ al_W, w.before args s = true := fun w h => hts w (List.mem_cons_of_mem _ h)
  intro n9
  induction n9 with
  | zero =>
    intro i hi H locs ls hP hD hS hl
    obtain rfl : 7 = i := by omega
    refine lv_iload hx hb d_W_add_5 (lv_at hl 3 rfl) ?_
    refine lv_bipush (v := 7) hx hb d_W_add_7 (by decide) ?_
    refine lv_icmp_ge (tgt := 56) hx hb d_W_add_9 (by decide) (fun hc => ?_) (fun hc => ?_)
    · exact K _ _ _ hP hD hS (lv_sub hl [0, 1, 2, 3] rfl)
    · exact absurd (show nI 7 ≤ nI 7 from nI_le (Nat.le_refl _) (by omega)) hc
  | succ n9 ih =>
    intro i hi H locs ls hP hD hS hl
    have hlt : i < 7 := by omega
    refine lv_iload hx hb d_W_add_5 (lv_at hl 3 rfl) ?_
    refine lv_bipush (v := 7) hx hb d_W_add_7 (by decide) ?_
    refine lv_icmp_ge (tgt := 56) hx hb d_W_add_9 (by decide) (fun hc => ?_) (fun hc => ?_)
    · exact absurd (show nI 7 ≤ nI i from hc) (nI_ge hlt (by omega))
    · refine lv_aload_n hx hb d_W_add_12 rfl (lv_at hl 0 rfl) ?_
      refine va_get (D := (dC, dI)) (ci := 0) (v := .ref a0) (C := R_W) (T := F_W) (N := 2) hx hb ha ui_W hown hK hP 0 rfl rfl 0 (by decide) (ha _ wm_W_5) (fun _ h9 => h9) rfl d_W_add_13 ?_
      refine lv_iload hx hb d_W_add_16 (lv_at hl 3 rfl) ?_
      refine ct_lald hx hb hK hP 1 0 rfl rfl i rfl (by omega) (by omega) d_W_add_18 ?_
      refine lv_aload_n hx hb d_W_add_19 rfl (lv_at hl 1 rfl) ?_
      refine va_get (D := (dC, dI)) (ci := 0) (v := .ref a1) (C := R_W) (T := F_W) (N := 2) hx hb ha ui_W hown hK hP 2 rfl rfl 0 (by decide) (ha _ wm_W_5) (fun _ h9 => h9) rfl d_W_add_20 ?_
      refine lv_iload hx hb d_W_add_23 (lv_at hl 3 rfl) ?_
      refine ct_lald hx hb hK hP 3 0 rfl rfl i rfl (by omega) (by omega) d_W_add_25 ?_
      refine lv_ladd hx hb d_W_add_26 ?_
      refine lv_lload_n hx hb d_W_add_27 rfl (lv_at hl 2 rfl) ?_
      refine lv_ladd hx hb d_W_add_28 ?_
      refine lv_lstore (lv' := [(5, .long (((((wd_add f g i).1) i) + (g i)) + ((wd_add f g i).2))), (0, .ref h0), (1, .ref h1), (2, .long ((wd_add f g i).2)), (4, .int (nI i))]) hx hb d_W_add_29 hl (by decide) rfl (fun ls hl => ?_)
      refine lv_aload_n hx hb d_W_add_31 rfl (lv_at hl 1 rfl) ?_
      refine va_get (D := (dC, dI)) (ci := 0) (v := .ref a0) (C := R_W) (T := F_W) (N := 2) hx hb ha ui_W hown hK hP 0 rfl rfl 0 (by decide) (ha _ wm_W_5) (fun _ h9 => h9) rfl d_W_add_32 ?_
      refine lv_iload hx hb d_W_add_35 (lv_at hl 4 rfl) ?_
      refine lv_lload hx hb d_W_add_37 (lv_at hl 0 rfl) ?_
      refine lv_ldc2 (v := 4294967295) hx hb hown (ha _ wm_W_13) d_W_add_39 ?_
      refine lv_land hx hb d_W_add_42 ?_
      refine ct_last hx hb hK hP hD hS 1 0 rfl rfl i rfl (by omega) (by omega) d_W_add_43 (fun H locs hP hD hS => ?_)
      have hP : va_P (dC, dI) cl9 [(h0, .inr (0, [.ref a0, .ref b0])), (a0, .inl (cL, 7, .inr (.inl (vp_updL ((wd_add f g i).1) i ((((((wd_add f g i).1) i) + (g i)) + ((wd_add f g i).2)) &&& 4294967295))))), (h1, .inr (0, [.ref a1, .ref b1])), (a1, .inl (cL, 7, .inr (.inl g)))] H := hP
      have hD : va_D A [(h0, .inr (0, [.ref a0, .ref b0])), (a0, .inl (cL, 7, .inr (.inl (vp_updL ((wd_add f g i).1) i ((((((wd_add f g i).1) i) + (g i)) + ((wd_add f g i).2)) &&& 4294967295))))), (h1, .inr (0, [.ref a1, .ref b1])), (a1, .inl (cL, 7, .inr (.inl g)))] := hD
      refine lv_lload hx hb d_W_add_44 (lv_at hl 0 rfl) ?_
      refine lv_bipush (v := 32) hx hb d_W_add_46 (by decide) ?_
      refine lv_lushr (v := (pu_us (((((wd_add f g i).1) i) + (g i)) + ((wd_add f g i).2)) 32)) hx hb d_W_add_48 rfl ?_
      refine lv_lstore_n (lv' := [(2, .long (pu_us (((((wd_add f g i).1) i) + (g i)) + ((wd_add f g i).2)) 32)), (5, .long (((((wd_add f g i).1) i) + (g i)) + ((wd_add f g i).2))), (0, .ref h0), (1, .ref h1), (4, .int (nI i))]) hx hb d_W_add_49 rfl hl (by decide) rfl (fun ls hl => ?_)
      refine lv_iinc (v := (nI (i + 1))) (lv' := [(4, .int (nI (i + 1))), (2, .long (pu_us (((((wd_add f g i).1) i) + (g i)) + ((wd_add f g i).2)) 32)), (5, .long (((((wd_add f g i).1) i) + (g i)) + ((wd_add f g i).2))), (0, .ref h0), (1, .ref h1)]) hx hb d_W_add_50 hl (k := 4) rfl (by exact nI_1 i) (by decide) rfl (fun ls hl => ?_)
      refine lv_goto (tgt := 5) hx hb d_W_add_53 (by decide) ?_
      exact ih (i + 1) (by omega) _ _ _ hP hD hS (lv_sub hl [3, 4, 1, 0] rfl)
set_option maxHeartbeats 4000000 in
set_option maxRecDepth 100000 in
/-- this becomes this + other -/
theorem c_W_add (l : Launch) (dC : Nat → ClassId) (dI : Nat → Nat → Nat) (h0 a0 b0 h1 a1 b1 : Nat) (cL : ClassId) (f g : Nat → Int64) (sz : Nat) : ct_V l y_W_add w_W_add { frames := 0, cells := 0, slots := 0, locals := 0 } (dC, dI) cl9 [(cL, .long)] ct_G0 [.ref h0, .ref h1] [(h0, .inr (0, [.ref a0, .ref b0])), (a0, .inl (cL, 7, .inr (.inl f))), (h1, .inr (0, [.ref a1, .ref b1])), (a1, .inl (cL, 7, .inr (.inl g)))] sz (S := Nat → Int64) (fun u => u = (wd_add f g 7).1) (fun _ => [(cL, .long)]) (fun u => [(h0, .inr (0, [.ref a0, .ref b0])), (a0, .inl (cL, 7, .inr (.inl u))), (h1, .inr (0, [.ref a1, .ref b1])), (a1, .inl (cL, 7, .inr (.inl g)))]) 0 0 := by
  refine ct_of (Qf := fun A => va_Qv (fun u => u = (wd_add f g 7).1) (ct_B (S := Nat → Int64) (dC, dI) cl9 (fun _ => [(cL, .long)]) A (fun u => [(h0, .inr (0, [.ref a0, .ref b0])), (a0, .inl (cL, 7, .inr (.inl u))), (h1, .inr (0, [.ref a1, .ref b1])), (a1, .inl (cL, 7, .inr (.inl g)))])) A) (cc := b_W_add) (maxL := 7) (ret := none) (by decide) rfl (Nat.le_of_ble_eq_true rfl) ?_
  intro p e s m below meth c A ls hF hA hP hK hD hG hS hl
  obtain ⟨hx, hb, hr, hml, hts, hown, hlocks, hnm⟩ := id hF
  have hown : s.vm.findClass R_W = some m.cls := hown
  have ha : ∀ w ∈ al_W, w.before [.ref h0, .ref h1].toArray s = true := fun w h => hts w (List.mem_cons_of_mem _ h)
  have hl : lv_has ls 7 [(0, .ref h0), (1, .ref h1)] := hl
  refine lv_lconst (v := 0) hx hb d_W_add_0 (by decide) ?_
  refine lv_lstore_n (lv' := [(2, .long 0), (0, .ref h0), (1, .ref h1)]) hx hb d_W_add_1 rfl hl (by decide) rfl (fun ls hl => ?_)
  refine lv_iconst (v := 0) hx hb d_W_add_2 (by decide) ?_
  refine lv_istore (lv' := [(4, .int 0), (2, .long 0), (0, .ref h0), (1, .ref h1)]) hx hb d_W_add_3 hl (by decide) rfl (fun ls hl => ?_)
  refine lp_W_add (h0 := h0) (a0 := a0) (b0 := b0) (h1 := h1) (a1 := a1) (b1 := b1) (cL := cL) (f := f) (g := g) hF hA hK (fun H locs ls hP hD hS hl => ?_) 7 0 (by omega) _ _ _ hP hD hS (lv_sub hl [2, 3, 1, 0] rfl)
  exact ct_vret hF d_W_add_56 ((wd_add f g 7).1) rfl (hP.sub [0, 1, 2, 3] rfl) (hD.sub [0, 1, 2, 3] (by decide) rfl) hK hS
