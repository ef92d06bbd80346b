def ld_G (tb N : Nat) (r : Nat → Int64) : ct_GT := fun A U H => va_T .long tb N (fun j => .long (r j)) A U H
theorem ld_Gok (tb N : Nat) (r : Nat → Int64) : ct_Gok (ld_G tb N r) := ⟨fun _ _ _ _ h q => va_T.moved (ct_alk h) q, fun _ _ _ _ h q => va_T.kept q h, fun _ _ _ _ h q => va_T.narrow q h⟩
theorem ct_vpin {x : Int32} {N : Nat} (hN : N < 2 ^ 31) (h1 : ¬ x < 0) (h2 : ¬ nI N ≤ x) : vp_in x N := by
  obtain ⟨j, hj, e, -⟩ := pk_mu h1 h2 hN
  rw [e]; exact vp_in_nI hj hN
set_option maxHeartbeats 4000000 in
set_option maxRecDepth 100000 in
/-- loadLimbs' loop -/
theorem lp_W_loadLimbs {p : Program} {l : Launch} {e : Env} {R : Room} {s : State} {m : MethodId} {args : Array Value} {below : List Frame} {meth : Method} {c : Code} {Q : State → Prop} {A : Nat → Prop} {cells slots : Nat} {dC : Nat → ClassId} {dI : Nat → Nat → Nat} {h0 : Nat} {a0 : Nat} {b0 : Nat} {cL : ClassId} {f : Nat → Int64} {tb : Nat} {N : Nat} {r : Nat → Int64} {st : Int32} (hF : ct_F p s m meth c b_W_loadLimbs none 5 w_W_loadLimbs y_W_loadLimbs args) (hA : ∀ q, s.heap.size ≤ q → A q) (hK : va_K (dC, dI) cl9 [(cL, .long)] s) (hN : N < 2 ^ 31) (hT : va_T .long tb N (fun j => .long (r j)) A s s.heap)
    (K : ∀ (H : Heap) (locs : List Loc) (ls : Array Slot), va_P (dC, dI) cl9 [(h0, .inr (0, [.ref a0, .ref b0])), (a0, .inl (cL, 7, .inr (.inl (wd_cp f (wd_lim r N st) 7))))] H → va_D A [(h0, .inr (0, [.ref a0, .ref b0])), (a0, .inl (cL, 7, .inr (.inl (wd_cp f (wd_lim r N st) 7))))] → va_S A s.heap H locs → lv_has ls 5 [(0, .ref h0), (1, .ref tb), (2, .int st), (3, .int (nI 7))] → W p l e R s m args below meth c H locs cells slots Q (F0 m 45 ls [])) :
    ∀ (n9 i : Nat), i + n9 = 7 → ∀ (H : Heap) (locs : List Loc) (ls : Array Slot), va_P (dC, dI) cl9 [(h0, .inr (0, [.ref a0, .ref b0])), (a0, .inl (cL, 7, .inr (.inl (wd_cp f (wd_lim r N st) i))))] H → va_D A [(h0, .inr (0, [.ref a0, .ref b0])), (a0, .inl (cL, 7, .inr (.inl (wd_cp f (wd_lim r N st) i))))] → va_S A s.heap H locs → lv_has ls 5 [(0, .ref h0), (1, .ref tb), (2, .int st), (3, .int (nI i))] → W p l e R s m args below meth c H locs cells slots Q (F0 m 2 ls []) := by
  obtain ⟨hx, hb, hr, hml, hts, hown, hlocks, hnm⟩ := id hF
  have hown : s.vm.findClass R_W = some m.cls := hown
  have ha : ∀ w ∈ al_W, w.before args s = true := fun w h => hts w (List.mem_cons_of_mem _ h)
  intro n9
  induction n9 with
  | zero =>
    intro i hi H locs ls hP hD hS hl
    obtain rfl : 7 = i := by omega
    refine lv_iload_n hx hb d_W_loadLimbs_2 rfl (lv_at hl 3 rfl) ?_
    refine lv_bipush (v := 7) hx hb d_W_loadLimbs_3 (by decide) ?_
    refine lv_icmp_ge (tgt := 45) hx hb d_W_loadLimbs_5 (by decide) (fun hc => ?_) (fun hc => ?_)
    · exact K _ _ _ hP hD hS (lv_sub hl [0, 1, 2, 3] rfl)
    · exact absurd (show nI 7 ≤ nI 7 from nI_le (by omega) (by omega)) hc
  | succ n9 ih =>
    intro i hi H locs ls hP hD hS hl
    have hlt : i < 7 := by omega
    refine lv_iload_n hx hb d_W_loadLimbs_2 rfl (lv_at hl 3 rfl) ?_
    refine lv_bipush (v := 7) hx hb d_W_loadLimbs_3 (by decide) ?_
    refine lv_icmp_ge (tgt := 45) hx hb d_W_loadLimbs_5 (by decide) (fun hc => ?_) (fun hc => ?_)
    · exact absurd (show nI 7 ≤ nI i from hc) (nI_ge (by omega) (by omega))
    · refine lv_iload_n hx hb d_W_loadLimbs_8 rfl (lv_at hl 2 rfl) ?_
      refine lv_iload_n hx hb d_W_loadLimbs_9 rfl (lv_at hl 3 rfl) ?_
      refine lv_iadd hx hb d_W_loadLimbs_10 ?_
      refine lv_istore (lv' := [(4, .int (st + (nI i))), (0, .ref h0), (1, .ref tb), (2, .int st), (3, .int (nI i))]) hx hb d_W_loadLimbs_11 hl (by decide) rfl (fun ls hl => ?_)
      refine lv_aload_n hx hb d_W_loadLimbs_13 rfl (lv_at hl 1 rfl) ?_
      refine va_get (D := (dC, dI)) (ci := 0) (v := .ref a0) (C := R_W) (T := F_W) (N := 2) hx hb ha ui_W hown hK hP 0 rfl rfl 0 (by decide) (ha _ wm_W_5) (fun _ h9 => h9) rfl d_W_loadLimbs_14 ?_
      refine lv_iload_n hx hb d_W_loadLimbs_17 rfl (lv_at hl 4 rfl) ?_
      refine lv_iload hx hb d_W_loadLimbs_18 (lv_at hl 0 rfl) ?_
      refine lv_if_lt (tgt := 37) hx hb d_W_loadLimbs_20 (by decide) (fun h1 => ?_) (fun h1 => ?_)
      · have e9 : (0 : Int64) = wd_lim r N st i := (if_neg (fun q => absurd q.1 (Int32.not_le.mpr h1))).symm
        refine lv_lconst (v := 0) hx hb d_W_loadLimbs_37 (by decide) ?_
        refine ct_last hx hb hK hP hD hS 1 0 rfl rfl i rfl (by omega) (by omega) d_W_loadLimbs_38 (fun H locs hP hD hS => ?_)
        have hP : va_P (dC, dI) cl9 [(h0, .inr (0, [.ref a0, .ref b0])), (a0, .inl (cL, 7, .inr (.inl (vp_updL (wd_cp f (wd_lim r N st) i) i 0))))] H := hP
        have hD : va_D A [(h0, .inr (0, [.ref a0, .ref b0])), (a0, .inl (cL, 7, .inr (.inl (vp_updL (wd_cp f (wd_lim r N st) i) i 0))))] := hD
        refine lv_iinc (v := (nI (i + 1))) (lv' := [(3, .int (nI (i + 1))), (4, .int (st + (nI i))), (0, .ref h0), (1, .ref tb), (2, .int st)]) hx hb d_W_loadLimbs_39 hl (k := 4) rfl (by exact nI_1 i) (by decide) rfl (fun ls hl => ?_)
        refine lv_goto (tgt := 2) hx hb d_W_loadLimbs_42 (by decide) ?_
        rw [e9, wd_cp_s] at hP hD
        exact ih (i + 1) (by omega) _ _ _ hP hD hS (lv_sub hl [2, 3, 4, 0] rfl)
      · refine lv_iload hx hb d_W_loadLimbs_23 (lv_at hl 0 rfl) ?_
        refine lv_aload_n hx hb d_W_loadLimbs_25 rfl (lv_at hl 2 rfl) ?_
        refine va_tlen (v := nI N) hx hb hT hS rfl d_W_loadLimbs_26 ?_
        refine lv_icmp_ge (tgt := 37) hx hb d_W_loadLimbs_27 (by decide) (fun h2 => ?_) (fun h2 => ?_)
        · have e9 : (0 : Int64) = wd_lim r N st i := (if_neg (fun q => absurd q.2 (Int32.not_lt.mpr h2))).symm
          refine lv_lconst (v := 0) hx hb d_W_loadLimbs_37 (by decide) ?_
          refine ct_last hx hb hK hP hD hS 1 0 rfl rfl i rfl (by omega) (by omega) d_W_loadLimbs_38 (fun H locs hP hD hS => ?_)
          have hP : va_P (dC, dI) cl9 [(h0, .inr (0, [.ref a0, .ref b0])), (a0, .inl (cL, 7, .inr (.inl (vp_updL (wd_cp f (wd_lim r N st) i) i 0))))] H := hP
          have hD : va_D A [(h0, .inr (0, [.ref a0, .ref b0])), (a0, .inl (cL, 7, .inr (.inl (vp_updL (wd_cp f (wd_lim r N st) i) i 0))))] := hD
          refine lv_iinc (v := (nI (i + 1))) (lv' := [(3, .int (nI (i + 1))), (4, .int (st + (nI i))), (0, .ref h0), (1, .ref tb), (2, .int st)]) hx hb d_W_loadLimbs_39 hl (k := 4) rfl (by exact nI_1 i) (by decide) rfl (fun ls hl => ?_)
          refine lv_goto (tgt := 2) hx hb d_W_loadLimbs_42 (by decide) ?_
          rw [e9, wd_cp_s] at hP hD
          exact ih (i + 1) (by omega) _ _ _ hP hD hS (lv_sub hl [2, 3, 4, 0] rfl)
        · refine lv_aload_n hx hb d_W_loadLimbs_30 rfl (lv_at hl 2 rfl) ?_
          refine lv_iload hx hb d_W_loadLimbs_31 (lv_at hl 0 rfl) ?_
          refine va_tl (v := .long (r (st + nI i).toNatClampNeg)) hx hb hT hS (ct_vpin hN h1 h2) rfl d_W_loadLimbs_33 ?_
          have e9 : r (st + nI i).toNatClampNeg = wd_lim r N st i := (if_pos ⟨Int32.not_lt.mp h1, Int32.not_le.mp h2⟩).symm
          refine lv_goto (tgt := 38) hx hb d_W_loadLimbs_34 (by decide) ?_
          refine ct_last hx hb hK hP hD hS 1 0 rfl rfl i rfl (by omega) (by omega) d_W_loadLimbs_38 (fun H locs hP hD hS => ?_)
          have hP : va_P (dC, dI) cl9 [(h0, .inr (0, [.ref a0, .ref b0])), (a0, .inl (cL, 7, .inr (.inl (vp_updL (wd_cp f (wd_lim r N st) i) i (r (st + nI i).toNatClampNeg)))))] H := hP
          have hD : va_D A [(h0, .inr (0, [.ref a0, .ref b0])), (a0, .inl (cL, 7, .inr (.inl (vp_updL (wd_cp f (wd_lim r N st) i) i (r (st + nI i).toNatClampNeg)))))] := hD
          refine lv_iinc (v := (nI (i + 1))) (lv' := [(3, .int (nI (i + 1))), (4, .int (st + (nI i))), (0, .ref h0), (1, .ref tb), (2, .int st)]) hx hb d_W_loadLimbs_39 hl (k := 4) rfl (by exact nI_1 i) (by decide) rfl (fun ls hl => ?_)
          refine lv_goto (tgt := 2) hx hb d_W_loadLimbs_42 (by decide) ?_
          rw [e9, wd_cp_s] at hP hD
          exact ih (i + 1) (by omega) _ _ _ hP hD hS (lv_sub hl [2, 3, 4, 0] rfl)
set_option maxHeartbeats 4000000 in
set_option maxRecDepth 100000 in
/-- the limbs of a row from a place on -/
theorem c_W_loadLimbs (l : Launch) (dC : Nat → ClassId) (dI : Nat → Nat → Nat) (h0 a0 b0 : Nat) (cL : ClassId) (f : Nat → Int64) (tb N : Nat) (hN : N < 2 ^ 31) (r : Nat → Int64) (st : Int32) (sz : Nat) : ct_V l y_W_loadLimbs w_W_loadLimbs { frames := 0, cells := 0, slots := 0, locals := 0 } (dC, dI) cl9 [(cL, .long)] (ld_G tb N r) [.ref h0, .ref tb, .int st] [(h0, .inr (0, [.ref a0, .ref b0])), (a0, .inl (cL, 7, .inr (.inl f)))] sz (S := Nat → Int64) (fun u : Nat → Int64 => u = wd_cp f (wd_lim r N st) 7) (fun _ : Nat → Int64 => [(cL, .long)]) (fun u : Nat → Int64 => [(h0, .inr (0, [.ref a0, .ref b0])), (a0, .inl (cL, 7, .inr (.inl u)))]) 0 0 := by
  refine ct_of (Qf := fun A => va_Qv (fun u : Nat → Int64 => u = wd_cp f (wd_lim r N st) 7) (ct_B (S := Nat → Int64) (dC, dI) cl9 (fun _ : Nat → Int64 => [(cL, .long)]) A (fun u : Nat → Int64 => [(h0, .inr (0, [.ref a0, .ref b0])), (a0, .inl (cL, 7, .inr (.inl u)))])) A) (cc := b_W_loadLimbs) (maxL := 5) (ret := none) (by decide) rfl (Nat.le_of_ble_eq_true rfl) ?_
  intro p e s m below meth c A ls hF hA hP hK hD hG hS hl
  obtain ⟨hx, hb, hr, hml, hts, hown, hlocks, hnm⟩ := id hF
  have hown : s.vm.findClass R_W = some m.cls := hown
  have ha : ∀ w ∈ al_W, w.before [.ref h0, .ref tb, .int st].toArray s = true := fun w h => hts w (List.mem_cons_of_mem _ h)
  have hl : lv_has ls 5 [(0, .ref h0), (1, .ref tb), (2, .int st)] := hl
  refine lv_iconst (v := 0) hx hb d_W_loadLimbs_0 (by decide) ?_
  refine lv_istore_n (lv' := [(3, .int 0), (0, .ref h0), (1, .ref tb), (2, .int st)]) hx hb d_W_loadLimbs_1 rfl hl (by decide) rfl (fun ls hl => ?_)
  rw [← wd_cp_0 f (wd_lim r N st)] at hP hD
  refine lp_W_loadLimbs (h0 := h0) (a0 := a0) (b0 := b0) (cL := cL) (f := f) (tb := tb) (N := N) (r := r) (st := st) hF hA hK hN hG (fun H locs ls hP hD hS hl => ?_) 7 0 (by omega) _ _ _ hP hD hS (lv_sub hl [1, 2, 3, 0] rfl)
  exact ct_vret hF d_W_loadLimbs_45 (wd_cp f (wd_lim r N st) 7) rfl (hP.sub [0, 1] rfl) (hD.sub [0, 1] (by decide) rfl) hK hS
set_option maxHeartbeats 4000000 in
set_option maxRecDepth 100000 in
/-- Math.abs of a long -/
theorem c_absL (l : Launch) (dC : Nat → ClassId) (dI : Nat → Nat → Nat) (x : Int64) (sz : Nat) : ct_L l y_Math_abs_JJ w_Math_abs_JJ { frames := 0, cells := 0, slots := 0, locals := 0 } (dC, dI) cl9 [] ct_G0 [.long x] [] sz (S := Unit) (fun r _ => r = pu_abl x) (fun _ : Unit => []) (fun _ => []) 0 0 := by
  refine ct_ofF (Qf := fun A => va_Ql (fun r _ => r = pu_abl x) (ct_B (S := Unit) (dC, dI) cl9 (fun _ : Unit => []) A (fun _ => [])) A) (cc := b_Math_abs_JJ) (maxL := 2) (ret := ((some .long))) (by decide +kernel) rfl (Nat.le_of_ble_eq_true rfl) ?_
  intro p e s m below meth c A ls hF hA hP hK hD hG hS hl
  obtain ⟨hx, hb, hr, hml, hts, hown, hlocks, hnm⟩ := id hF
  have hown : s.vm.findClass "java/lang/Math" = some m.cls := hown
  have hl : lv_has ls 2 [(0, .long x)] := hl
  refine lv_lload_n hx hb d_Math_abs_JJ_0 rfl (lv_at hl 0 rfl) ?_
  refine lv_lconst (v := 0) hx hb d_Math_abs_JJ_1 (by decide) ?_
  refine ct_jge (tgt := 11) hx hb d_Math_abs_JJ_2 d_Math_abs_JJ_3 (by decide) (fun hc => ?_) (fun hc => ?_)
  · refine lv_lload_n hx hb d_Math_abs_JJ_11 rfl (lv_at hl 0 rfl) ?_
    exact ct_lret hF d_Math_abs_JJ_12 () (if_pos hc).symm (hP.sub [] rfl) (hD.sub [] (by decide) rfl) hK hS
  · refine lv_lload_n hx hb d_Math_abs_JJ_6 rfl (lv_at hl 0 rfl) ?_
    refine lv_lneg hx hb d_Math_abs_JJ_7 ?_
    refine lv_goto (tgt := 12) hx hb d_Math_abs_JJ_8 (by decide) ?_
    exact ct_lret hF d_Math_abs_JJ_12 () (if_neg hc).symm (hP.sub [] rfl) (hD.sub [] (by decide) rfl) hK hS
set_option maxHeartbeats 4000000 in
set_option maxRecDepth 100000 in
/-- Math.abs of an int -/
theorem c_absI (l : Launch) (dC : Nat → ClassId) (dI : Nat → Nat → Nat) (x : Int32) (sz : Nat) : ct_I l y_Math_abs_II w_Math_abs_II { frames := 0, cells := 0, slots := 0, locals := 0 } (dC, dI) cl9 [] ct_G0 [.int x] [] sz (S := Unit) (fun r _ => r = pu_abi x) (fun _ : Unit => []) (fun _ => []) 0 0 := by
  refine ct_ofF (Qf := fun A => va_Qi (fun r _ => r = pu_abi x) (ct_B (S := Unit) (dC, dI) cl9 (fun _ : Unit => []) A (fun _ => [])) A) (cc := b_Math_abs_II) (maxL := 1) (ret := ((some .int))) (by decide +kernel) rfl (Nat.le_of_ble_eq_true rfl) ?_
  intro p e s m below meth c A ls hF hA hP hK hD hG hS hl
  obtain ⟨hx, hb, hr, hml, hts, hown, hlocks, hnm⟩ := id hF
  have hown : s.vm.findClass "java/lang/Math" = some m.cls := hown
  have hl : lv_has ls 1 [(0, .int x)] := hl
  refine lv_iload_n hx hb d_Math_abs_II_0 rfl (lv_at hl 0 rfl) ?_
  refine lv_if_ge (tgt := 9) hx hb d_Math_abs_II_1 (by decide) (fun hc => ?_) (fun hc => ?_)
  · refine lv_iload_n hx hb d_Math_abs_II_9 rfl (lv_at hl 0 rfl) ?_
    exact ct_iret hF d_Math_abs_II_10 () (if_pos hc).symm (hP.sub [] rfl) (hD.sub [] (by decide) rfl) hK hS
  · refine lv_iload_n hx hb d_Math_abs_II_4 rfl (lv_at hl 0 rfl) ?_
    refine lv_ineg hx hb d_Math_abs_II_5 ?_
    refine lv_goto (tgt := 10) hx hb d_Math_abs_II_6 (by decide) ?_
    exact ct_iret hF d_Math_abs_II_10 () (if_neg hc).symm (hP.sub [] rfl) (hD.sub [] (by decide) rfl) hK hS
set_option maxHeartbeats 4000000 in
set_option maxRecDepth 100000 in
/-- Math.min of two longs -/
theorem c_minL (l : Launch) (dC : Nat → ClassId) (dI : Nat → Nat → Nat) (x y : Int64) (sz : Nat) : ct_L l y_Math_min_JJJ w_Math_min_JJJ { frames := 0, cells := 0, slots := 0, locals := 0 } (dC, dI) cl9 [] ct_G0 [.long x, .long y] [] sz (S := Unit) (fun r _ => r = (if y < x then y else x)) (fun _ : Unit => []) (fun _ => []) 0 0 := by
  refine ct_ofF (Qf := fun A => va_Ql (fun r _ => r = (if y < x then y else x)) (ct_B (S := Unit) (dC, dI) cl9 (fun _ : Unit => []) A (fun _ => [])) A) (cc := b_Math_min_JJJ) (maxL := 4) (ret := ((some .long))) (by decide +kernel) rfl (Nat.le_of_ble_eq_true rfl) ?_
  intro p e s m below meth c A ls hF hA hP hK hD hG hS hl
  obtain ⟨hx, hb, hr, hml, hts, hown, hlocks, hnm⟩ := id hF
  have hown : s.vm.findClass "java/lang/Math" = some m.cls := hown
  have hl : lv_has ls 4 [(0, .long x), (2, .long y)] := hl
  refine lv_lload_n hx hb d_Math_min_JJJ_0 rfl (lv_at hl 0 rfl) ?_
  refine lv_lload_n hx hb d_Math_min_JJJ_1 rfl (lv_at hl 1 rfl) ?_
  refine ct_jgt (tgt := 10) hx hb d_Math_min_JJJ_2 d_Math_min_JJJ_3 (by decide) (fun hc => ?_) (fun hc => ?_)
  · refine lv_lload_n hx hb d_Math_min_JJJ_10 rfl (lv_at hl 1 rfl) ?_
    exact ct_lret hF d_Math_min_JJJ_11 () (if_pos hc).symm (hP.sub [] rfl) (hD.sub [] (by decide) rfl) hK hS
  · refine lv_lload_n hx hb d_Math_min_JJJ_6 rfl (lv_at hl 0 rfl) ?_
    refine lv_goto (tgt := 11) hx hb d_Math_min_JJJ_7 (by decide) ?_
    exact ct_lret hF d_Math_min_JJJ_11 () (if_neg hc).symm (hP.sub [] rfl) (hD.sub [] (by decide) rfl) hK hS
set_option maxHeartbeats 4000000 in
set_option maxRecDepth 100000 in
/-- Math.max of two longs -/
theorem c_maxL (l : Launch) (dC : Nat → ClassId) (dI : Nat → Nat → Nat) (x y : Int64) (sz : Nat) : ct_L l y_Math_max_JJJ w_Math_max_JJJ { frames := 0, cells := 0, slots := 0, locals := 0 } (dC, dI) cl9 [] ct_G0 [.long x, .long y] [] sz (S := Unit) (fun r _ => r = (if x < y then y else x)) (fun _ : Unit => []) (fun _ => []) 0 0 := by
  refine ct_ofF (Qf := fun A => va_Ql (fun r _ => r = (if x < y then y else x)) (ct_B (S := Unit) (dC, dI) cl9 (fun _ : Unit => []) A (fun _ => [])) A) (cc := b_Math_max_JJJ) (maxL := 4) (ret := ((some .long))) (by decide +kernel) rfl (Nat.le_of_ble_eq_true rfl) ?_
  intro p e s m below meth c A ls hF hA hP hK hD hG hS hl
  obtain ⟨hx, hb, hr, hml, hts, hown, hlocks, hnm⟩ := id hF
  have hown : s.vm.findClass "java/lang/Math" = some m.cls := hown
  have hl : lv_has ls 4 [(0, .long x), (2, .long y)] := hl
  refine lv_lload_n hx hb d_Math_max_JJJ_0 rfl (lv_at hl 0 rfl) ?_
  refine lv_lload_n hx hb d_Math_max_JJJ_1 rfl (lv_at hl 1 rfl) ?_
  refine ct_jlt (tgt := 10) hx hb d_Math_max_JJJ_2 d_Math_max_JJJ_3 (by decide) (fun hc => ?_) (fun hc => ?_)
  · refine lv_lload_n hx hb d_Math_max_JJJ_10 rfl (lv_at hl 1 rfl) ?_
    exact ct_lret hF d_Math_max_JJJ_11 () (if_pos hc).symm (hP.sub [] rfl) (hD.sub [] (by decide) rfl) hK hS
  · refine lv_lload_n hx hb d_Math_max_JJJ_6 rfl (lv_at hl 0 rfl) ?_
    refine lv_goto (tgt := 11) hx hb d_Math_max_JJJ_7 (by decide) ?_
    exact ct_lret hF d_Math_max_JJJ_11 () (if_neg hc).symm (hP.sub [] rfl) (hD.sub [] (by decide) rfl) hK hS
