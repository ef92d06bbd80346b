def tb_no (cn : Nat) (P : Nat → Int32) (pl : Int32) : Prop := 20 ≤ cn ∨ (0 < cn ∧ pl ≤ P (cn - 1))
def tb_bf (P V : Nat → Int32) (i : Nat) (pl : Int32) : Int64 := if 0 < (P i).toInt64 - (P (i - 1)).toInt64 then (V (i - 1)).toInt64 + pu_fdl (((V i).toInt64 - (V (i - 1)).toInt64) * (pl.toInt64 - (P (i - 1)).toInt64)) ((P i).toInt64 - (P (i - 1)).toInt64) else (V i).toInt64
def tb_sc (cn : Nat) (P V : Nat → Int32) (pl : Int32) : Nat → Nat → Int64
  | 0, _ => (V (cn - 1)).toInt64
  | n + 1, i => if pl ≤ P i then tb_bf P V i pl else tb_sc cn P V pl n (i + 1)
def tb_val (cn : Nat) (P V : Nat → Int32) (pl : Int32) : Int64 := if cn = 0 then -9223372036854775808 else if pl ≤ P 0 then (V 0).toInt64 else tb_sc cn P V pl (cn - 1) 1
set_option maxHeartbeats 4000000 in
set_option maxRecDepth 100000 in
/-- Math.floorDiv -/
theorem c_fdL (l : Launch) (dC : Nat → ClassId) (dI : Nat → Nat → Nat) (x y : Int64) (hy : ¬ y = 0) (sz : Nat) : ct_L l y_Math_floorDiv_JJJ w_Math_floorDiv_JJJ { frames := 0, cells := 0, slots := 0, locals := 0 } (dC, dI) cl9 [] ct_G0 [.long x, .long y] [] sz (S := Unit) (fun r _ => r = pu_fdl x y) (fun _ : Unit => []) (fun _ => []) 0 0 := by
  refine ct_ofF (Qf := fun A => va_Ql (fun r _ => r = pu_fdl x y) (ct_B (S := Unit) (dC, dI) cl9 (fun _ : Unit => []) A (fun _ => [])) A) (cc := b_Math_floorDiv_JJJ) (maxL := 6) (ret := ((some .long))) (by decide +kernel) rfl (Nat.le_of_ble_eq_true rfl) ?_
  intro p e s m below meth c A ls hF hA hP hK hD hG hS hl
  obtain ⟨hx, hb, hr, hml, hts, hown, hlocks, hnm⟩ := id hF
  have hown : s.vm.findClass "java/lang/Math" = some m.cls := hown
  have hl : lv_has ls 6 [(0, .long x), (2, .long y)] := hl
  refine lv_lload_n hx hb d_Math_floorDiv_JJJ_0 rfl (lv_at hl 0 rfl) ?_
  refine lv_lload_n hx hb d_Math_floorDiv_JJJ_1 rfl (lv_at hl 1 rfl) ?_
  refine lv_ldiv hx hb d_Math_floorDiv_JJJ_2 hy ?_
  refine lv_lstore (lv' := [(4, .long (x / y)), (0, .long x), (2, .long y)]) hx hb d_Math_floorDiv_JJJ_3 hl (by decide) rfl (fun ls hl => ?_)
  refine lv_lload_n hx hb d_Math_floorDiv_JJJ_5 rfl (lv_at hl 1 rfl) ?_
  refine lv_lload_n hx hb d_Math_floorDiv_JJJ_6 rfl (lv_at hl 2 rfl) ?_
  refine lv_lxor hx hb d_Math_floorDiv_JJJ_7 ?_
  refine lv_lconst (v := 0) hx hb d_Math_floorDiv_JJJ_8 (by decide) ?_
  refine ct_jge (tgt := 27) hx hb d_Math_floorDiv_JJJ_9 d_Math_floorDiv_JJJ_10 (by decide) (fun h1 => ?_) (fun h1 => ?_)
  · refine lv_lload hx hb d_Math_floorDiv_JJJ_27 (lv_at hl 0 rfl) ?_
    exact ct_lret hF d_Math_floorDiv_JJJ_29 () (if_neg (fun q => absurd q.1 (Int64.not_lt.mpr h1))).symm (hP.sub [] rfl) (hD.sub [] (by decide) rfl) hK hS
  · refine lv_lload hx hb d_Math_floorDiv_JJJ_13 (lv_at hl 0 rfl) ?_
    refine lv_lload_n hx hb d_Math_floorDiv_JJJ_15 rfl (lv_at hl 2 rfl) ?_
    refine lv_lmul hx hb d_Math_floorDiv_JJJ_16 ?_
    refine lv_lload_n hx hb d_Math_floorDiv_JJJ_17 rfl (lv_at hl 1 rfl) ?_
    refine ct_jeq (tgt := 27) hx hb d_Math_floorDiv_JJJ_18 d_Math_floorDiv_JJJ_19 (by decide) (fun h2 => ?_) (fun h2 => ?_)
    · refine lv_lload hx hb d_Math_floorDiv_JJJ_27 (lv_at hl 0 rfl) ?_
      exact ct_lret hF d_Math_floorDiv_JJJ_29 () (if_neg (fun q => q.2 h2)).symm (hP.sub [] rfl) (hD.sub [] (by decide) rfl) hK hS
    · refine lv_lload hx hb d_Math_floorDiv_JJJ_22 (lv_at hl 0 rfl) ?_
      refine lv_lconst (v := 1) hx hb d_Math_floorDiv_JJJ_24 (by decide) ?_
      refine lv_lsub hx hb d_Math_floorDiv_JJJ_25 ?_
      exact ct_lret hF d_Math_floorDiv_JJJ_26 () (if_pos ⟨Int64.not_le.mp h1, h2⟩).symm (hP.sub [] rfl) (hD.sub [] (by decide) rfl) hK hS
set_option maxHeartbeats 4000000 in
set_option maxRecDepth 100000 in
/-- Math.floorDiv -/
theorem c_fdI (l : Launch) (dC : Nat → ClassId) (dI : Nat → Nat → Nat) (x y : Int32) (hy : ¬ y = 0) (sz : Nat) : ct_I l y_Math_floorDiv_III w_Math_floorDiv_III { frames := 0, cells := 0, slots := 0, locals := 0 } (dC, dI) cl9 [] ct_G0 [.int x, .int y] [] sz (S := Unit) (fun r _ => r = pu_fdi x y) (fun _ : Unit => []) (fun _ => []) 0 0 := by
  refine ct_ofF (Qf := fun A => va_Qi (fun r _ => r = pu_fdi x y) (ct_B (S := Unit) (dC, dI) cl9 (fun _ : Unit => []) A (fun _ => [])) A) (cc := b_Math_floorDiv_III) (maxL := 3) (ret := ((some .int))) (by decide +kernel) rfl (Nat.le_of_ble_eq_true rfl) ?_
  intro p e s m below meth c A ls hF hA hP hK hD hG hS hl
  obtain ⟨hx, hb, hr, hml, hts, hown, hlocks, hnm⟩ := id hF
  have hown : s.vm.findClass "java/lang/Math" = some m.cls := hown
  have hl : lv_has ls 3 [(0, .int x), (1, .int y)] := hl
  refine lv_iload_n hx hb d_Math_floorDiv_III_0 rfl (lv_at hl 0 rfl) ?_
  refine lv_iload_n hx hb d_Math_floorDiv_III_1 rfl (lv_at hl 1 rfl) ?_
  refine lv_idiv hx hb d_Math_floorDiv_III_2 hy ?_
  refine lv_istore_n (lv' := [(2, .int (x / y)), (0, .int x), (1, .int y)]) hx hb d_Math_floorDiv_III_3 rfl hl (by decide) rfl (fun ls hl => ?_)
  refine lv_iload_n hx hb d_Math_floorDiv_III_4 rfl (lv_at hl 1 rfl) ?_
  refine lv_iload_n hx hb d_Math_floorDiv_III_5 rfl (lv_at hl 2 rfl) ?_
  refine lv_ixor hx hb d_Math_floorDiv_III_6 ?_
  refine lv_if_ge (tgt := 21) hx hb d_Math_floorDiv_III_7 (by decide) (fun h1 => ?_) (fun h1 => ?_)
  · refine lv_iload_n hx hb d_Math_floorDiv_III_21 rfl (lv_at hl 0 rfl) ?_
    exact ct_iret hF d_Math_floorDiv_III_22 () (if_neg (fun q => absurd q.1 (Int32.not_lt.mpr h1))).symm (hP.sub [] rfl) (hD.sub [] (by decide) rfl) hK hS
  · refine lv_iload_n hx hb d_Math_floorDiv_III_10 rfl (lv_at hl 0 rfl) ?_
    refine lv_iload_n hx hb d_Math_floorDiv_III_11 rfl (lv_at hl 2 rfl) ?_
    refine lv_imul hx hb d_Math_floorDiv_III_12 ?_
    refine lv_iload_n hx hb d_Math_floorDiv_III_13 rfl (lv_at hl 1 rfl) ?_
    refine lv_icmp_eq (tgt := 21) hx hb d_Math_floorDiv_III_14 (by decide) (fun h2 => ?_) (fun h2 => ?_)
    · refine lv_iload_n hx hb d_Math_floorDiv_III_21 rfl (lv_at hl 0 rfl) ?_
      exact ct_iret hF d_Math_floorDiv_III_22 () (if_neg (fun q => q.2 h2)).symm (hP.sub [] rfl) (hD.sub [] (by decide) rfl) hK hS
    · refine lv_iload_n hx hb d_Math_floorDiv_III_17 rfl (lv_at hl 0 rfl) ?_
      refine lv_iconst (v := 1) hx hb d_Math_floorDiv_III_18 (by decide) ?_
      refine lv_isub hx hb d_Math_floorDiv_III_19 ?_
      exact ct_iret hF d_Math_floorDiv_III_20 () (if_pos ⟨Int32.not_le.mp h1, h2⟩).symm (hP.sub [] rfl) (hD.sub [] (by decide) rfl) hK hS
set_option maxHeartbeats 4000000 in
set_option maxRecDepth 100000 in
/-- Table(): no rows -/
theorem c_T_init (l : Launch) (dC : Nat → ClassId) (dI : Nat → Nat → Nat) (h0 : Nat) (cI : ClassId) (sz : Nat) : ct_V l y_T_init w_T_init { frames := 1, cells := 2, slots := 40, locals := 12 } (dC, dI) cl9 [(cI, .int)] ct_G0 [.ref h0] [(h0, .inr (2, [.null, .null, .int 0]))] sz (S := Nat × Nat) (fun _ => True) (fun _ : Nat × Nat => [(cI, .int)]) (fun u : Nat × Nat => [(h0, .inr (2, [.ref u.1, .ref u.2, .int (nI 0)])), (u.1, .inl (cI, 20, .inl (fun _ => 0))), (u.2, .inl (cI, 20, .inl (fun _ => 0)))]) 2 40 := by
  refine ct_of (Qf := fun A => va_Qv (fun _ => True) (ct_B (S := Nat × Nat) (dC, dI) cl9 (fun _ : Nat × Nat => [(cI, .int)]) A (fun u : Nat × Nat => [(h0, .inr (2, [.ref u.1, .ref u.2, .int (nI 0)])), (u.1, .inl (cI, 20, .inl (fun _ => 0))), (u.2, .inl (cI, 20, .inl (fun _ => 0)))])) A) (cc := b_T_init) (maxL := 1) (ret := none) (by decide) rfl (Nat.le_of_ble_eq_true rfl) ?_
  intro p e s m below meth c A ls hF hA hP hK hD hG hS hl
  obtain ⟨hx, hb, hr, hml, hts, hown, hlocks, hnm⟩ := id hF
  have hown : s.vm.findClass R_T = some m.cls := hown
  have ha : ∀ w ∈ al_T, w.before [.ref h0].toArray s = true := fun w h => hts w (List.mem_cons_of_mem _ h)
  have hl : lv_has ls 1 [(0, .ref h0)] := hl
  have hin : meth.name = "<init>" := hnm
  refine lv_aload_n hx hb d_T_init_0 rfl (lv_at hl 0 rfl) ?_
  refine W.objInit hx hb hown (ha _ wm_T_4) (ha _ wm_T_27) (ha _ wm_T_28) rfl (by rw [hml]; exact hl.1) rfl d_T_init_1 (Nat.le_of_ble_eq_true rfl) (Nat.le_of_ble_eq_true rfl) ?_
  refine W.eq (g2 := F0 m 4 ls []) rfl ?_
  refine lv_aload_n hx hb d_T_init_4 rfl (lv_at hl 0 rfl) ?_
  refine lv_bipush (v := 20) hx hb d_T_init_5 (by decide) ?_
  refine va_newa (atype := .int) hx hb (ha _ wm_T_32) (ty := .int) rfl hK hP hD hS hA (N' := 20) (a0 := (20, .inl (fun _ => 0))) (fun _ => rfl) (by decide) (by decide) (by decide) (Nat.le_of_ble_eq_true rfl) (Nat.le_of_ble_eq_true rfl) d_T_init_7 (fun q1 c9 H hK9 hP hD hS => ?_)
  obtain rfl := ct_sameI hK9 0 1 rfl rfl
  have hP : va_P (dC, dI) cl9 [(h0, .inr (2, [.null, .null, .int 0])), (q1, .inl (cI, 20, .inl (fun _ => 0)))] H := hP
  have hD : va_D A [(h0, .inr (2, [.null, .null, .int 0])), (q1, .inl (cI, 20, .inl (fun _ => 0)))] := hD
  refine va_putF (D := (dC, dI)) (ci := 2) (v := .ref q1) (ty := (.array .int)) (C := R_T) (T := F_T) (N := 3) hx hb ha ui_T ft_T tk_T nm_T hown hK hP hD hS 0 rfl rfl 0 (by decide) (ha _ wm_T_5) (fun _ h9 => h9) rfl hin rfl (by decide +kernel) rfl rfl (Nat.le_of_ble_eq_true rfl) d_T_init_9 (fun H locs hP hD hS => ?_)
  have hP : va_P (dC, dI) cl9 [(h0, .inr (2, [.ref q1, .null, .int 0])), (q1, .inl (cI, 20, .inl (fun _ => 0)))] H := hP
  have hD : va_D A [(h0, .inr (2, [.ref q1, .null, .int 0])), (q1, .inl (cI, 20, .inl (fun _ => 0)))] := hD
  refine lv_aload_n hx hb d_T_init_12 rfl (lv_at hl 0 rfl) ?_
  refine lv_bipush (v := 20) hx hb d_T_init_13 (by decide) ?_
  refine va_newa (atype := .int) hx hb (ha _ wm_T_32) (ty := .int) rfl hK hP hD hS hA (N' := 20) (a0 := (20, .inl (fun _ => 0))) (fun _ => rfl) (by decide) (by decide) (by decide) (Nat.le_of_ble_eq_true rfl) (Nat.le_of_ble_eq_true rfl) d_T_init_15 (fun q2 c9 H hK9 hP hD hS => ?_)
  obtain rfl := ct_sameI hK9 0 1 rfl rfl
  have hP : va_P (dC, dI) cl9 [(h0, .inr (2, [.ref q1, .null, .int 0])), (q1, .inl (cI, 20, .inl (fun _ => 0))), (q2, .inl (cI, 20, .inl (fun _ => 0)))] H := hP
  have hD : va_D A [(h0, .inr (2, [.ref q1, .null, .int 0])), (q1, .inl (cI, 20, .inl (fun _ => 0))), (q2, .inl (cI, 20, .inl (fun _ => 0)))] := hD
  refine va_putF (D := (dC, dI)) (ci := 2) (v := .ref q2) (ty := (.array .int)) (C := R_T) (T := F_T) (N := 3) hx hb ha ui_T ft_T tk_T nm_T hown hK hP hD hS 0 rfl rfl 1 (by decide) (ha _ wm_T_6) (fun _ h9 => h9) rfl hin rfl (by decide +kernel) rfl rfl (Nat.le_of_ble_eq_true rfl) d_T_init_17 (fun H locs hP hD hS => ?_)
  have hP : va_P (dC, dI) cl9 [(h0, .inr (2, [.ref q1, .ref q2, .int 0])), (q1, .inl (cI, 20, .inl (fun _ => 0))), (q2, .inl (cI, 20, .inl (fun _ => 0)))] H := hP
  have hD : va_D A [(h0, .inr (2, [.ref q1, .ref q2, .int 0])), (q1, .inl (cI, 20, .inl (fun _ => 0))), (q2, .inl (cI, 20, .inl (fun _ => 0)))] := hD
  refine lv_aload_n hx hb d_T_init_20 rfl (lv_at hl 0 rfl) ?_
  refine lv_iconst (v := 0) hx hb d_T_init_21 (by decide) ?_
  refine va_put (D := (dC, dI)) (ci := 2) (v := .int 0) (ty := .int) (C := R_T) (T := F_T) (N := 3) hx hb ha ui_T ft_T tk_T nm_T hown hK hP hD hS 0 rfl rfl 2 (by decide) (ha _ wm_T_7) (fun _ h9 => h9) rfl (by decide +kernel) rfl rfl (Nat.le_of_ble_eq_true rfl) d_T_init_22 (fun H locs hP hD hS => ?_)
  have hP : va_P (dC, dI) cl9 [(h0, .inr (2, [.ref q1, .ref q2, .int 0])), (q1, .inl (cI, 20, .inl (fun _ => 0))), (q2, .inl (cI, 20, .inl (fun _ => 0)))] H := hP
  have hD : va_D A [(h0, .inr (2, [.ref q1, .ref q2, .int 0])), (q1, .inl (cI, 20, .inl (fun _ => 0))), (q2, .inl (cI, 20, .inl (fun _ => 0)))] := hD
  exact ct_vret hF d_T_init_25 (q1, q2) trivial (hP.sub [0, 1, 2] rfl) (hD.sub [0, 1, 2] (by decide) rfl) hK hS
set_option maxHeartbeats 4000000 in
set_option maxRecDepth 100000 in
/-- whether there are 20 rows -/
theorem c_T_isFull (l : Launch) (dC : Nat → ClassId) (dI : Nat → Nat → Nat) (h0 tp tv : Nat) (cI : ClassId) (cn : Nat) (hcn : cn ≤ 20) (P V : Nat → Int32) (sz : Nat) : ct_I l y_T_isFull w_T_isFull { frames := 0, cells := 0, slots := 0, locals := 0 } (dC, dI) cl9 [(cI, .int)] ct_G0 [.ref h0] [(h0, .inr (2, [.ref tp, .ref tv, .int (nI cn)])), (tp, .inl (cI, 20, .inl P)), (tv, .inl (cI, 20, .inl V))] sz (S := Unit) (fun r _ => r = if 20 ≤ cn then 1 else 0) (fun _ : Unit => [(cI, .int)]) (fun _ => [(h0, .inr (2, [.ref tp, .ref tv, .int (nI cn)])), (tp, .inl (cI, 20, .inl P)), (tv, .inl (cI, 20, .inl V))]) 0 0 := by
  refine ct_of (Qf := fun A => va_Qi (fun r _ => r = if 20 ≤ cn then 1 else 0) (ct_B (S := Unit) (dC, dI) cl9 (fun _ : Unit => [(cI, .int)]) A (fun _ => [(h0, .inr (2, [.ref tp, .ref tv, .int (nI cn)])), (tp, .inl (cI, 20, .inl P)), (tv, .inl (cI, 20, .inl V))])) A) (cc := b_T_isFull) (maxL := 1) (ret := ((some .boolean))) (by decide) rfl (Nat.le_of_ble_eq_true rfl) ?_
  intro p e s m below meth c A ls hF hA hP hK hD hG hS hl
  obtain ⟨hx, hb, hr, hml, hts, hown, hlocks, hnm⟩ := id hF
  have hown : s.vm.findClass R_T = some m.cls := hown
  have ha : ∀ w ∈ al_T, w.before [.ref h0].toArray s = true := fun w h => hts w (List.mem_cons_of_mem _ h)
  have hl : lv_has ls 1 [(0, .ref h0)] := hl
  refine lv_aload_n hx hb d_T_isFull_0 rfl (lv_at hl 0 rfl) ?_
  refine va_get (D := (dC, dI)) (ci := 2) (v := .int (nI cn)) (C := R_T) (T := F_T) (N := 3) hx hb ha ui_T hown hK hP 0 rfl rfl 2 (by decide) (ha _ wm_T_7) (fun _ h9 => h9) rfl d_T_isFull_1 ?_
  refine lv_bipush (v := 20) hx hb d_T_isFull_4 (by decide) ?_
  refine lv_icmp_lt (tgt := 13) hx hb d_T_isFull_6 (by decide) (fun hc => ?_) (fun hc => ?_)
  · refine lv_iconst (v := 0) hx hb d_T_isFull_13 (by decide) ?_
    exact ct_zret hF d_T_isFull_14 (by decide) () (if_neg (fun q => absurd (show nI cn < nI 20 from hc) (nI_nlt q (by omega)))).symm (hP.sub [0, 1, 2] rfl) (hD.sub [0, 1, 2] (by decide) rfl) hK hS
  · refine lv_iconst (v := 1) hx hb d_T_isFull_9 (by decide) ?_
    refine lv_goto (tgt := 14) hx hb d_T_isFull_10 (by decide) ?_
    exact ct_zret hF d_T_isFull_14 (by decide) () (if_pos (Nat.le_of_not_lt (fun q => hc (show nI cn < nI 20 from nI_lt q (by omega))))).symm (hP.sub [0, 1, 2] rfl) (hD.sub [0, 1, 2] (by decide) rfl) hK hS
set_option maxHeartbeats 4000000 in
set_option maxRecDepth 100000 in
/-- a row: how many there are, or -1 -/
theorem c_T_append (l : Launch) (dC : Nat → ClassId) (dI : Nat → Nat → Nat) (h0 tp tv : Nat) (cI : ClassId) (cn : Nat) (hcn : cn ≤ 20) (P V : Nat → Int32) (pl va : Int32) (sz : Nat) : ct_I l y_T_append w_T_append { frames := 1, cells := 0, slots := 0, locals := 20 } (dC, dI) cl9 [(cI, .int)] ct_G0 [.ref h0, .int pl, .int va] [(h0, .inr (2, [.ref tp, .ref tv, .int (nI cn)])), (tp, .inl (cI, 20, .inl P)), (tv, .inl (cI, 20, .inl V))] sz (S := Nat × (Nat → Int32) × (Nat → Int32)) (fun r (u : Nat × (Nat → Int32) × (Nat → Int32)) => (tb_no cn P pl ∧ r = -1 ∧ u = (cn, P, V)) ∨ (¬ tb_no cn P pl ∧ r = nI (cn + 1) ∧ u = (cn + 1, upd P cn pl, upd V cn va))) (fun _ : Nat × (Nat → Int32) × (Nat → Int32) => [(cI, .int)]) (fun u : Nat × (Nat → Int32) × (Nat → Int32) => [(h0, .inr (2, [.ref tp, .ref tv, .int (nI u.1)])), (tp, .inl (cI, 20, .inl u.2.1)), (tv, .inl (cI, 20, .inl u.2.2))]) 0 0 := by
  refine ct_of (Qf := fun A => va_Qi (fun r (u : Nat × (Nat → Int32) × (Nat → Int32)) => (tb_no cn P pl ∧ r = -1 ∧ u = (cn, P, V)) ∨ (¬ tb_no cn P pl ∧ r = nI (cn + 1) ∧ u = (cn + 1, upd P cn pl, upd V cn va))) (ct_B (S := Nat × (Nat → Int32) × (Nat → Int32)) (dC, dI) cl9 (fun _ : Nat × (Nat → Int32) × (Nat → Int32) => [(cI, .int)]) A (fun u : Nat × (Nat → Int32) × (Nat → Int32) => [(h0, .inr (2, [.ref tp, .ref tv, .int (nI u.1)])), (tp, .inl (cI, 20, .inl u.2.1)), (tv, .inl (cI, 20, .inl u.2.2))])) A) (cc := b_T_append) (maxL := 3) (ret := ((some .int))) (by decide) rfl (Nat.le_of_ble_eq_true rfl) ?_
  intro p e s m below meth c A ls hF hA hP hK hD hG hS hl
  obtain ⟨hx, hb, hr, hml, hts, hown, hlocks, hnm⟩ := id hF
  have hown : s.vm.findClass R_T = some m.cls := hown
  have ha : ∀ w ∈ al_T, w.before [.ref h0, .int pl, .int va].toArray s = true := fun w h => hts w (List.mem_cons_of_mem _ h)
  have hl : lv_has ls 3 [(0, .ref h0), (1, .int pl), (2, .int va)] := hl
  refine lv_aload_n hx hb d_T_append_0 rfl (lv_at hl 0 rfl) ?_
  refine cs_calli (va_runV (As := []) (rest := []) ⟨hx, hb, hml, hown, ha⟩ (c_T_isFull l dC dI h0 tp tv cI cn hcn P V _) (cwV 0 ha g_T_T_isFull rfl rfl rfl (by decide +kernel) ⟨Nat.le_of_ble_eq_true rfl, Nat.le_of_ble_eq_true rfl⟩) (ct_preV ct_G0ok trivial hK hP hD hS hA [0, 1, 2] rfl (by decide) [0] rfl 0 2 rfl rfl rfl) rfl rfl hl.1 rfl (lv_room (Nat.le_of_ble_eq_true rfl)) d_T_append_1 ⟨Nat.le_of_ble_eq_true rfl, Nat.le_of_ble_eq_true rfl⟩) hP hD hS hA [0, 1, 2] rfl (by decide) (fun _ => rfl) (fun r9 u H locs hw hP hD hS => ?_)
  have hP : va_P (dC, dI) cl9 [(h0, .inr (2, [.ref tp, .ref tv, .int (nI cn)])), (tp, .inl (cI, 20, .inl P)), (tv, .inl (cI, 20, .inl V))] H := hP
  have hD : va_D A [(h0, .inr (2, [.ref tp, .ref tv, .int (nI cn)])), (tp, .inl (cI, 20, .inl P)), (tv, .inl (cI, 20, .inl V))] := hD
  subst hw
  refine lv_if_ne (tgt := 29) hx hb d_T_append_4 (by decide) (fun h1 => ?_) (fun h1 => ?_)
  · have h20 : 20 ≤ cn := Decidable.byContradiction (fun q => h1 (if_neg q))
    refine lv_iconst (v := -1) hx hb d_T_append_29 (by decide) ?_
    exact ct_iret hF d_T_append_30 (cn, P, V) (Or.inl ⟨Or.inl h20, rfl, rfl⟩) (hP.sub [0, 1, 2] rfl) (hD.sub [0, 1, 2] (by decide) rfl) hK hS
  · have h20 : ¬ 20 ≤ cn := fun q => absurd ((if_pos q).symm.trans h1) (by decide)
    refine lv_aload_n hx hb d_T_append_7 rfl (lv_at hl 0 rfl) ?_
    refine va_get (D := (dC, dI)) (ci := 2) (v := .int (nI cn)) (C := R_T) (T := F_T) (N := 3) hx hb ha ui_T hown hK hP 0 rfl rfl 2 (by decide) (ha _ wm_T_7) (fun _ h9 => h9) rfl d_T_append_8 ?_
    refine lv_if_le (tgt := 31) hx hb d_T_append_11 (by decide) (fun h2 => ?_) (fun h2 => ?_)
    · have h0' : cn = 0 := Nat.eq_zero_of_not_pos (fun q => nI_nle q (by omega) h2)
      refine lv_aload_n hx hb d_T_append_31 rfl (lv_at hl 0 rfl) ?_
      refine va_get (D := (dC, dI)) (ci := 2) (v := .ref tp) (C := R_T) (T := F_T) (N := 3) hx hb ha ui_T hown hK hP 0 rfl rfl 0 (by decide) (ha _ wm_T_5) (fun _ h9 => h9) rfl d_T_append_32 ?_
      refine lv_aload_n hx hb d_T_append_35 rfl (lv_at hl 0 rfl) ?_
      refine va_get (D := (dC, dI)) (ci := 2) (v := .int (nI cn)) (C := R_T) (T := F_T) (N := 3) hx hb ha ui_T hown hK hP 0 rfl rfl 2 (by decide) (ha _ wm_T_7) (fun _ h9 => h9) rfl d_T_append_36 ?_
      refine lv_iload_n hx hb d_T_append_39 rfl (lv_at hl 1 rfl) ?_
      refine ct_iast hx hb hK hP hD hS 1 0 rfl rfl cn rfl (by omega) (by omega) d_T_append_40 (fun H locs hP hD hS => ?_)
      have hP : va_P (dC, dI) cl9 [(h0, .inr (2, [.ref tp, .ref tv, .int (nI cn)])), (tp, .inl (cI, 20, .inl (upd P cn pl))), (tv, .inl (cI, 20, .inl V))] H := hP
      have hD : va_D A [(h0, .inr (2, [.ref tp, .ref tv, .int (nI cn)])), (tp, .inl (cI, 20, .inl (upd P cn pl))), (tv, .inl (cI, 20, .inl V))] := hD
      refine lv_aload_n hx hb d_T_append_41 rfl (lv_at hl 0 rfl) ?_
      refine va_get (D := (dC, dI)) (ci := 2) (v := .ref tv) (C := R_T) (T := F_T) (N := 3) hx hb ha ui_T hown hK hP 0 rfl rfl 1 (by decide) (ha _ wm_T_6) (fun _ h9 => h9) rfl d_T_append_42 ?_
      refine lv_aload_n hx hb d_T_append_45 rfl (lv_at hl 0 rfl) ?_
      refine va_get (D := (dC, dI)) (ci := 2) (v := .int (nI cn)) (C := R_T) (T := F_T) (N := 3) hx hb ha ui_T hown hK hP 0 rfl rfl 2 (by decide) (ha _ wm_T_7) (fun _ h9 => h9) rfl d_T_append_46 ?_
      refine lv_iload_n hx hb d_T_append_49 rfl (lv_at hl 2 rfl) ?_
      refine ct_iast hx hb hK hP hD hS 2 0 rfl rfl cn rfl (by omega) (by omega) d_T_append_50 (fun H locs hP hD hS => ?_)
      have hP : va_P (dC, dI) cl9 [(h0, .inr (2, [.ref tp, .ref tv, .int (nI cn)])), (tp, .inl (cI, 20, .inl (upd P cn pl))), (tv, .inl (cI, 20, .inl (upd V cn va)))] H := hP
      have hD : va_D A [(h0, .inr (2, [.ref tp, .ref tv, .int (nI cn)])), (tp, .inl (cI, 20, .inl (upd P cn pl))), (tv, .inl (cI, 20, .inl (upd V cn va)))] := hD
      refine lv_aload_n hx hb d_T_append_51 rfl (lv_at hl 0 rfl) ?_
      refine lv_dup hx hb d_T_append_52 rfl ?_
      refine va_get (D := (dC, dI)) (ci := 2) (v := .int (nI cn)) (C := R_T) (T := F_T) (N := 3) hx hb ha ui_T hown hK hP 0 rfl rfl 2 (by decide) (ha _ wm_T_7) (fun _ h9 => h9) rfl d_T_append_53 ?_
      refine lv_iconst (v := 1) hx hb d_T_append_56 (by decide) ?_
      refine lv_iadd hx hb d_T_append_57 ?_
      refine lv_topi (fun c9 ec9 => ?_)
      obtain rfl : c9 = nI (cn + 1) := ec9.trans (nI_1 cn)
      refine va_put (D := (dC, dI)) (ci := 2) (v := .int (nI (cn + 1))) (ty := .int) (C := R_T) (T := F_T) (N := 3) hx hb ha ui_T ft_T tk_T nm_T hown hK hP hD hS 0 rfl rfl 2 (by decide) (ha _ wm_T_7) (fun _ h9 => h9) rfl (by decide +kernel) rfl rfl (Nat.le_of_ble_eq_true rfl) d_T_append_58 (fun H locs hP hD hS => ?_)
      have hP : va_P (dC, dI) cl9 [(h0, .inr (2, [.ref tp, .ref tv, .int (nI (cn + 1))])), (tp, .inl (cI, 20, .inl (upd P cn pl))), (tv, .inl (cI, 20, .inl (upd V cn va)))] H := hP
      have hD : va_D A [(h0, .inr (2, [.ref tp, .ref tv, .int (nI (cn + 1))])), (tp, .inl (cI, 20, .inl (upd P cn pl))), (tv, .inl (cI, 20, .inl (upd V cn va)))] := hD
      refine lv_aload_n hx hb d_T_append_61 rfl (lv_at hl 0 rfl) ?_
      refine va_get (D := (dC, dI)) (ci := 2) (v := .int (nI (cn + 1))) (C := R_T) (T := F_T) (N := 3) hx hb ha ui_T hown hK hP 0 rfl rfl 2 (by decide) (ha _ wm_T_7) (fun _ h9 => h9) rfl d_T_append_62 ?_
      exact ct_iret hF d_T_append_65 (cn + 1, upd P cn pl, upd V cn va) (Or.inr ⟨(fun q => q.elim h20 (fun q => absurd q.1 (by omega))), rfl, rfl⟩) (hP.sub [0, 1, 2] rfl) (hD.sub [0, 1, 2] (by decide) rfl) hK hS
    · have h0' : 0 < cn := Nat.pos_of_ne_zero (fun e => h2 (by rw [e]; decide))
      refine lv_iload_n hx hb d_T_append_14 rfl (lv_at hl 1 rfl) ?_
      refine lv_aload_n hx hb d_T_append_15 rfl (lv_at hl 0 rfl) ?_
      refine va_get (D := (dC, dI)) (ci := 2) (v := .ref tp) (C := R_T) (T := F_T) (N := 3) hx hb ha ui_T hown hK hP 0 rfl rfl 0 (by decide) (ha _ wm_T_5) (fun _ h9 => h9) rfl d_T_append_16 ?_
      refine lv_aload_n hx hb d_T_append_19 rfl (lv_at hl 0 rfl) ?_
      refine va_get (D := (dC, dI)) (ci := 2) (v := .int (nI cn)) (C := R_T) (T := F_T) (N := 3) hx hb ha ui_T hown hK hP 0 rfl rfl 2 (by decide) (ha _ wm_T_7) (fun _ h9 => h9) rfl d_T_append_20 ?_
      refine lv_iconst (v := 1) hx hb d_T_append_23 (by decide) ?_
      refine lv_isub hx hb d_T_append_24 ?_
      refine ct_iald hx hb hK hP 1 0 rfl rfl (cn - 1) (pk_sub (a := cn) (b := 1) (by omega)) (by omega) (by omega) d_T_append_25 ?_
      refine lv_icmp_gt (tgt := 31) hx hb d_T_append_26 (by decide) (fun h3 => ?_) (fun h3 => ?_)
      · refine lv_aload_n hx hb d_T_append_31 rfl (lv_at hl 0 rfl) ?_
        refine va_get (D := (dC, dI)) (ci := 2) (v := .ref tp) (C := R_T) (T := F_T) (N := 3) hx hb ha ui_T hown hK hP 0 rfl rfl 0 (by decide) (ha _ wm_T_5) (fun _ h9 => h9) rfl d_T_append_32 ?_
        refine lv_aload_n hx hb d_T_append_35 rfl (lv_at hl 0 rfl) ?_
        refine va_get (D := (dC, dI)) (ci := 2) (v := .int (nI cn)) (C := R_T) (T := F_T) (N := 3) hx hb ha ui_T hown hK hP 0 rfl rfl 2 (by decide) (ha _ wm_T_7) (fun _ h9 => h9) rfl d_T_append_36 ?_
        refine lv_iload_n hx hb d_T_append_39 rfl (lv_at hl 1 rfl) ?_
        refine ct_iast hx hb hK hP hD hS 1 0 rfl rfl cn rfl (by omega) (by omega) d_T_append_40 (fun H locs hP hD hS => ?_)
        have hP : va_P (dC, dI) cl9 [(h0, .inr (2, [.ref tp, .ref tv, .int (nI cn)])), (tp, .inl (cI, 20, .inl (upd P cn pl))), (tv, .inl (cI, 20, .inl V))] H := hP
        have hD : va_D A [(h0, .inr (2, [.ref tp, .ref tv, .int (nI cn)])), (tp, .inl (cI, 20, .inl (upd P cn pl))), (tv, .inl (cI, 20, .inl V))] := hD
        refine lv_aload_n hx hb d_T_append_41 rfl (lv_at hl 0 rfl) ?_
        refine va_get (D := (dC, dI)) (ci := 2) (v := .ref tv) (C := R_T) (T := F_T) (N := 3) hx hb ha ui_T hown hK hP 0 rfl rfl 1 (by decide) (ha _ wm_T_6) (fun _ h9 => h9) rfl d_T_append_42 ?_
        refine lv_aload_n hx hb d_T_append_45 rfl (lv_at hl 0 rfl) ?_
        refine va_get (D := (dC, dI)) (ci := 2) (v := .int (nI cn)) (C := R_T) (T := F_T) (N := 3) hx hb ha ui_T hown hK hP 0 rfl rfl 2 (by decide) (ha _ wm_T_7) (fun _ h9 => h9) rfl d_T_append_46 ?_
        refine lv_iload_n hx hb d_T_append_49 rfl (lv_at hl 2 rfl) ?_
        refine ct_iast hx hb hK hP hD hS 2 0 rfl rfl cn rfl (by omega) (by omega) d_T_append_50 (fun H locs hP hD hS => ?_)
        have hP : va_P (dC, dI) cl9 [(h0, .inr (2, [.ref tp, .ref tv, .int (nI cn)])), (tp, .inl (cI, 20, .inl (upd P cn pl))), (tv, .inl (cI, 20, .inl (upd V cn va)))] H := hP
        have hD : va_D A [(h0, .inr (2, [.ref tp, .ref tv, .int (nI cn)])), (tp, .inl (cI, 20, .inl (upd P cn pl))), (tv, .inl (cI, 20, .inl (upd V cn va)))] := hD
        refine lv_aload_n hx hb d_T_append_51 rfl (lv_at hl 0 rfl) ?_
        refine lv_dup hx hb d_T_append_52 rfl ?_
        refine va_get (D := (dC, dI)) (ci := 2) (v := .int (nI cn)) (C := R_T) (T := F_T) (N := 3) hx hb ha ui_T hown hK hP 0 rfl rfl 2 (by decide) (ha _ wm_T_7) (fun _ h9 => h9) rfl d_T_append_53 ?_
        refine lv_iconst (v := 1) hx hb d_T_append_56 (by decide) ?_
        refine lv_iadd hx hb d_T_append_57 ?_
        refine lv_topi (fun c9 ec9 => ?_)
        obtain rfl : c9 = nI (cn + 1) := ec9.trans (nI_1 cn)
        refine va_put (D := (dC, dI)) (ci := 2) (v := .int (nI (cn + 1))) (ty := .int) (C := R_T) (T := F_T) (N := 3) hx hb ha ui_T ft_T tk_T nm_T hown hK hP hD hS 0 rfl rfl 2 (by decide) (ha _ wm_T_7) (fun _ h9 => h9) rfl (by decide +kernel) rfl rfl (Nat.le_of_ble_eq_true rfl) d_T_append_58 (fun H locs hP hD hS => ?_)
        have hP : va_P (dC, dI) cl9 [(h0, .inr (2, [.ref tp, .ref tv, .int (nI (cn + 1))])), (tp, .inl (cI, 20, .inl (upd P cn pl))), (tv, .inl (cI, 20, .inl (upd V cn va)))] H := hP
        have hD : va_D A [(h0, .inr (2, [.ref tp, .ref tv, .int (nI (cn + 1))])), (tp, .inl (cI, 20, .inl (upd P cn pl))), (tv, .inl (cI, 20, .inl (upd V cn va)))] := hD
        refine lv_aload_n hx hb d_T_append_61 rfl (lv_at hl 0 rfl) ?_
        refine va_get (D := (dC, dI)) (ci := 2) (v := .int (nI (cn + 1))) (C := R_T) (T := F_T) (N := 3) hx hb ha ui_T hown hK hP 0 rfl rfl 2 (by decide) (ha _ wm_T_7) (fun _ h9 => h9) rfl d_T_append_62 ?_
        exact ct_iret hF d_T_append_65 (cn + 1, upd P cn pl, upd V cn va) (Or.inr ⟨(fun q => q.elim h20 (fun q => absurd q.2 (Int32.not_le.mpr h3))), rfl, rfl⟩) (hP.sub [0, 1, 2] rfl) (hD.sub [0, 1, 2] (by decide) rfl) hK hS
      · refine lv_iconst (v := -1) hx hb d_T_append_29 (by decide) ?_
        exact ct_iret hF d_T_append_30 (cn, P, V) (Or.inl ⟨Or.inr ⟨h0', Int32.not_lt.mp h3⟩, rfl, rfl⟩) (hP.sub [0, 1, 2] rfl) (hD.sub [0, 1, 2] (by decide) rfl) hK hS
set_option maxHeartbeats 4000000 in
set_option maxRecDepth 100000 in
/-- the value on the line that ends at row i -/
theorem c_T_valueBefore (l : Launch) (dC : Nat → ClassId) (dI : Nat → Nat → Nat) (h0 tp tv : Nat) (cI : ClassId) (cn : Nat) (hcn : cn ≤ 20) (P V : Nat → Int32) (i : Nat) (hi : 1 ≤ i ∧ i < 20) (pl : Int32) (sz : Nat) : ct_L l y_T_valueBefore w_T_valueBefore { frames := 1, cells := 0, slots := 0, locals := 25 } (dC, dI) cl9 [(cI, .int)] ct_G0 [.ref h0, .int (nI i), .int pl] [(h0, .inr (2, [.ref tp, .ref tv, .int (nI cn)])), (tp, .inl (cI, 20, .inl P)), (tv, .inl (cI, 20, .inl V))] sz (S := Unit) (fun r _ => r = tb_bf P V i pl) (fun _ : Unit => [(cI, .int)]) (fun _ => [(h0, .inr (2, [.ref tp, .ref tv, .int (nI cn)])), (tp, .inl (cI, 20, .inl P)), (tv, .inl (cI, 20, .inl V))]) 0 0 := by
  refine ct_of (Qf := fun A => va_Ql (fun r _ => r = tb_bf P V i pl) (ct_B (S := Unit) (dC, dI) cl9 (fun _ : Unit => [(cI, .int)]) A (fun _ => [(h0, .inr (2, [.ref tp, .ref tv, .int (nI cn)])), (tp, .inl (cI, 20, .inl P)), (tv, .inl (cI, 20, .inl V))])) A) (cc := b_T_valueBefore) (maxL := 9) (ret := ((some .long))) (by decide) rfl (Nat.le_of_ble_eq_true rfl) ?_
  intro p e s m below meth c A ls hF hA hP hK hD hG hS hl
  obtain ⟨hx, hb, hr, hml, hts, hown, hlocks, hnm⟩ := id hF
  have hown : s.vm.findClass R_T = some m.cls := hown
  have ha : ∀ w ∈ al_T, w.before [.ref h0, .int (nI i), .int pl].toArray s = true := fun w h => hts w (List.mem_cons_of_mem _ h)
  have hl : lv_has ls 9 [(0, .ref h0), (1, .int (nI i)), (2, .int pl)] := hl
  refine lv_aload_n hx hb d_T_valueBefore_0 rfl (lv_at hl 0 rfl) ?_
  refine va_get (D := (dC, dI)) (ci := 2) (v := .ref tp) (C := R_T) (T := F_T) (N := 3) hx hb ha ui_T hown hK hP 0 rfl rfl 0 (by decide) (ha _ wm_T_5) (fun _ h9 => h9) rfl d_T_valueBefore_1 ?_
  refine lv_iload_n hx hb d_T_valueBefore_4 rfl (lv_at hl 1 rfl) ?_
  refine ct_iald hx hb hK hP 1 0 rfl rfl i rfl (by omega) (by omega) d_T_valueBefore_5 ?_
  refine lv_i2l hx hb d_T_valueBefore_6 rfl ?_
  refine lv_aload_n hx hb d_T_valueBefore_7 rfl (lv_at hl 0 rfl) ?_
  refine va_get (D := (dC, dI)) (ci := 2) (v := .ref tp) (C := R_T) (T := F_T) (N := 3) hx hb ha ui_T hown hK hP 0 rfl rfl 0 (by decide) (ha _ wm_T_5) (fun _ h9 => h9) rfl d_T_valueBefore_8 ?_
  refine lv_iload_n hx hb d_T_valueBefore_11 rfl (lv_at hl 1 rfl) ?_
  refine lv_iconst (v := 1) hx hb d_T_valueBefore_12 (by decide) ?_
  refine lv_isub hx hb d_T_valueBefore_13 ?_
  refine ct_iald hx hb hK hP 1 0 rfl rfl (i - 1) (pk_sub (a := i) (b := 1) (by omega)) (by omega) (by omega) d_T_valueBefore_14 ?_
  refine lv_i2l hx hb d_T_valueBefore_15 rfl ?_
  refine lv_lsub hx hb d_T_valueBefore_16 ?_
  refine lv_lstore_n (lv' := [(3, .long ((((P i) : Int32).toInt64) - (((P (i - 1)) : Int32).toInt64))), (0, .ref h0), (1, .int (nI i)), (2, .int pl)]) hx hb d_T_valueBefore_17 rfl hl (by decide) rfl (fun ls hl => ?_)
  refine lv_lload_n hx hb d_T_valueBefore_18 rfl (lv_at hl 0 rfl) ?_
  refine lv_lconst (v := 0) hx hb d_T_valueBefore_19 (by decide) ?_
  refine ct_jgt (tgt := 32) hx hb d_T_valueBefore_20 d_T_valueBefore_21 (by decide) (fun h1 => ?_) (fun h1 => ?_)
  · refine lv_aload_n hx hb d_T_valueBefore_32 rfl (lv_at hl 1 rfl) ?_
    refine va_get (D := (dC, dI)) (ci := 2) (v := .ref tv) (C := R_T) (T := F_T) (N := 3) hx hb ha ui_T hown hK hP 0 rfl rfl 1 (by decide) (ha _ wm_T_6) (fun _ h9 => h9) rfl d_T_valueBefore_33 ?_
    refine lv_iload_n hx hb d_T_valueBefore_36 rfl (lv_at hl 2 rfl) ?_
    refine ct_iald hx hb hK hP 2 0 rfl rfl i rfl (by omega) (by omega) d_T_valueBefore_37 ?_
    refine lv_i2l hx hb d_T_valueBefore_38 rfl ?_
    refine lv_aload_n hx hb d_T_valueBefore_39 rfl (lv_at hl 1 rfl) ?_
    refine va_get (D := (dC, dI)) (ci := 2) (v := .ref tv) (C := R_T) (T := F_T) (N := 3) hx hb ha ui_T hown hK hP 0 rfl rfl 1 (by decide) (ha _ wm_T_6) (fun _ h9 => h9) rfl d_T_valueBefore_40 ?_
    refine lv_iload_n hx hb d_T_valueBefore_43 rfl (lv_at hl 2 rfl) ?_
    refine lv_iconst (v := 1) hx hb d_T_valueBefore_44 (by decide) ?_
    refine lv_isub hx hb d_T_valueBefore_45 ?_
    refine ct_iald hx hb hK hP 2 0 rfl rfl (i - 1) (pk_sub (a := i) (b := 1) (by omega)) (by omega) (by omega) d_T_valueBefore_46 ?_
    refine lv_i2l hx hb d_T_valueBefore_47 rfl ?_
    refine lv_lsub hx hb d_T_valueBefore_48 ?_
    refine lv_lstore (lv' := [(5, .long ((((V i) : Int32).toInt64) - (((V (i - 1)) : Int32).toInt64))), (3, .long ((((P i) : Int32).toInt64) - (((P (i - 1)) : Int32).toInt64))), (0, .ref h0), (1, .int (nI i)), (2, .int pl)]) hx hb d_T_valueBefore_49 hl (by decide) rfl (fun ls hl => ?_)
    refine lv_iload_n hx hb d_T_valueBefore_51 rfl (lv_at hl 4 rfl) ?_
    refine lv_i2l hx hb d_T_valueBefore_52 rfl ?_
    refine lv_aload_n hx hb d_T_valueBefore_53 rfl (lv_at hl 2 rfl) ?_
    refine va_get (D := (dC, dI)) (ci := 2) (v := .ref tp) (C := R_T) (T := F_T) (N := 3) hx hb ha ui_T hown hK hP 0 rfl rfl 0 (by decide) (ha _ wm_T_5) (fun _ h9 => h9) rfl d_T_valueBefore_54 ?_
    refine lv_iload_n hx hb d_T_valueBefore_57 rfl (lv_at hl 3 rfl) ?_
    refine lv_iconst (v := 1) hx hb d_T_valueBefore_58 (by decide) ?_
    refine lv_isub hx hb d_T_valueBefore_59 ?_
    refine ct_iald hx hb hK hP 1 0 rfl rfl (i - 1) (pk_sub (a := i) (b := 1) (by omega)) (by omega) (by omega) d_T_valueBefore_60 ?_
    refine lv_i2l hx hb d_T_valueBefore_61 rfl ?_
    refine lv_lsub hx hb d_T_valueBefore_62 ?_
    refine lv_lstore (lv' := [(7, .long (((pl : Int32).toInt64) - (((P (i - 1)) : Int32).toInt64))), (5, .long ((((V i) : Int32).toInt64) - (((V (i - 1)) : Int32).toInt64))), (3, .long ((((P i) : Int32).toInt64) - (((P (i - 1)) : Int32).toInt64))), (0, .ref h0), (1, .int (nI i)), (2, .int pl)]) hx hb d_T_valueBefore_63 hl (by decide) rfl (fun ls hl => ?_)
    refine lv_aload_n hx hb d_T_valueBefore_65 rfl (lv_at hl 3 rfl) ?_
    refine va_get (D := (dC, dI)) (ci := 2) (v := .ref tv) (C := R_T) (T := F_T) (N := 3) hx hb ha ui_T hown hK hP 0 rfl rfl 1 (by decide) (ha _ wm_T_6) (fun _ h9 => h9) rfl d_T_valueBefore_66 ?_
    refine lv_iload_n hx hb d_T_valueBefore_69 rfl (lv_at hl 4 rfl) ?_
    refine lv_iconst (v := 1) hx hb d_T_valueBefore_70 (by decide) ?_
    refine lv_isub hx hb d_T_valueBefore_71 ?_
    refine ct_iald hx hb hK hP 2 0 rfl rfl (i - 1) (pk_sub (a := i) (b := 1) (by omega)) (by omega) (by omega) d_T_valueBefore_72 ?_
    refine lv_i2l hx hb d_T_valueBefore_73 rfl ?_
    refine lv_lload hx hb d_T_valueBefore_74 (lv_at hl 1 rfl) ?_
    refine lv_lload hx hb d_T_valueBefore_76 (lv_at hl 0 rfl) ?_
    refine lv_lmul hx hb d_T_valueBefore_78 ?_
    refine lv_lload_n hx hb d_T_valueBefore_79 rfl (lv_at hl 2 rfl) ?_
    refine cs_calll (va_runS (As := [.long (((((V i) : Int32).toInt64) - (((V (i - 1)) : Int32).toInt64)) * (((pl : Int32).toInt64) - (((P (i - 1)) : Int32).toInt64))), .long ((((P i) : Int32).toInt64) - (((P (i - 1)) : Int32).toInt64))]) (rest := [.long (((V (i - 1)) : Int32).toInt64)]) ⟨hx, hb, hml, hown, ha⟩ (c_fdL l dC dI (((((V i) : Int32).toInt64) - (((V (i - 1)) : Int32).toInt64)) * (((pl : Int32).toInt64) - (((P (i - 1)) : Int32).toInt64))) ((((P i) : Int32).toInt64) - (((P (i - 1)) : Int32).toInt64)) (fun e => by rw [e] at h1; exact absurd h1 (by decide)) _) (va_cwS 2 ha g_T_Math_floorDiv_JJJ rfl rfl rfl (by decide +kernel) ⟨Nat.le_of_ble_eq_true rfl, Nat.le_of_ble_eq_true rfl⟩) (ct_pre ct_G0ok trivial hK hP hD hS hA [] rfl (by decide) [] rfl) rfl rfl hl.1 rfl (lv_room (Nat.le_of_ble_eq_true rfl)) d_T_valueBefore_80 ⟨Nat.le_of_ble_eq_true rfl, Nat.le_of_ble_eq_true rfl⟩) hP hD hS hA [] rfl (by decide) (fun _ => rfl) (fun r9 u H locs hw hP hD hS => ?_)
    have hP : va_P (dC, dI) cl9 [(h0, .inr (2, [.ref tp, .ref tv, .int (nI cn)])), (tp, .inl (cI, 20, .inl P)), (tv, .inl (cI, 20, .inl V))] H := hP
    have hD : va_D A [(h0, .inr (2, [.ref tp, .ref tv, .int (nI cn)])), (tp, .inl (cI, 20, .inl P)), (tv, .inl (cI, 20, .inl V))] := hD
    subst hw
    refine lv_ladd hx hb d_T_valueBefore_83 ?_
    exact ct_lret hF d_T_valueBefore_84 () (if_pos h1).symm (hP.sub [0, 1, 2] rfl) (hD.sub [0, 1, 2] (by decide) rfl) hK hS
  · refine lv_aload_n hx hb d_T_valueBefore_24 rfl (lv_at hl 1 rfl) ?_
    refine va_get (D := (dC, dI)) (ci := 2) (v := .ref tv) (C := R_T) (T := F_T) (N := 3) hx hb ha ui_T hown hK hP 0 rfl rfl 1 (by decide) (ha _ wm_T_6) (fun _ h9 => h9) rfl d_T_valueBefore_25 ?_
    refine lv_iload_n hx hb d_T_valueBefore_28 rfl (lv_at hl 2 rfl) ?_
    refine ct_iald hx hb hK hP 2 0 rfl rfl i rfl (by omega) (by omega) d_T_valueBefore_29 ?_
    refine lv_i2l hx hb d_T_valueBefore_30 rfl ?_
    exact ct_lret hF d_T_valueBefore_31 () (if_neg h1).symm (hP.sub [0, 1, 2] rfl) (hD.sub [0, 1, 2] (by decide) rfl) hK hS
set_option maxHeartbeats 4000000 in
set_option maxRecDepth 100000 in
/-- the search for a row -/
theorem lp_T_valueBy {p : Program} {l : Launch} {e : Env} {R : Room} {s : State} {m : MethodId} {args : Array Value} {below : List Frame} {meth : Method} {c : Code} {Q : State → Prop} {A : Nat → Prop} {cells slots : Nat} {dC : Nat → ClassId} {dI : Nat → Nat → Nat} {h0 : Nat} {tp : Nat} {tv : Nat} {cI : ClassId} {cn : Nat} {P : Nat → Int32} {V : Nat → Int32} {pl : Int32} (hF : ct_F p s m meth c b_T_valueBy ((some .long)) 3 w_T_valueBy y_T_valueBy args) (hA : ∀ q, s.heap.size ≤ q → A q) (hK : va_K (dC, dI) cl9 [(cI, .int)] s) (hcn : cn ≤ 20) (hRf : 2 ≤ R.frames) (hRl : 53 ≤ R.locals) (hRc : cells ≤ R.cells) (hRs : slots ≤ R.slots) (Kx : ∀ (r9 : Int64), r9 = tb_sc cn P V pl (cn - 1) 1 → ∀ (H : Heap) (locs : List Loc) (ls : Array Slot), va_P (dC, dI) cl9 [(h0, .inr (2, [.ref tp, .ref tv, .int (nI cn)])), (tp, .inl (cI, 20, .inl P)), (tv, .inl (cI, 20, .inl V))] H → va_D A [(h0, .inr (2, [.ref tp, .ref tv, .int (nI cn)])), (tp, .inl (cI, 20, .inl P)), (tv, .inl (cI, 20, .inl V))] → va_S A s.heap H locs → W p l e R s m args below meth c H locs cells slots Q (F0 m 55 ls [.long r9]))
    (K : (1 ≤ cn ∧ tb_sc cn P V pl (cn - 1) 1 = tb_sc cn P V pl 0 cn) → ∀ (H : Heap) (locs : List Loc) (ls : Array Slot), va_P (dC, dI) cl9 [(h0, .inr (2, [.ref tp, .ref tv, .int (nI cn)])), (tp, .inl (cI, 20, .inl P)), (tv, .inl (cI, 20, .inl V))] H → va_D A [(h0, .inr (2, [.ref tp, .ref tv, .int (nI cn)])), (tp, .inl (cI, 20, .inl P)), (tv, .inl (cI, 20, .inl V))] → va_S A s.heap H locs → lv_has ls 3 [(0, .ref h0), (1, .int pl), (2, .int (nI cn))] → W p l e R s m args below meth c H locs cells slots Q (F0 m 62 ls [])) :
    ∀ (n9 i : Nat), i + n9 = cn → (1 ≤ i ∧ tb_sc cn P V pl (cn - 1) 1 = tb_sc cn P V pl n9 i) → ∀ (H : Heap) (locs : List Loc) (ls : Array Slot), va_P (dC, dI) cl9 [(h0, .inr (2, [.ref tp, .ref tv, .int (nI cn)])), (tp, .inl (cI, 20, .inl P)), (tv, .inl (cI, 20, .inl V))] H → va_D A [(h0, .inr (2, [.ref tp, .ref tv, .int (nI cn)])), (tp, .inl (cI, 20, .inl P)), (tv, .inl (cI, 20, .inl V))] → va_S A s.heap H locs → lv_has ls 3 [(0, .ref h0), (1, .int pl), (2, .int (nI i))] → W p l e R s m args below meth c H locs cells slots Q (F0 m 31 ls []) := by
  obtain ⟨hx, hb, hr, hml, hts, hown, hlocks, hnm⟩ := id hF
  have hown : s.vm.findClass R_T = some m.cls := hown
  have ha : ∀ w ∈ al_T, w.before args s = true := fun w h => hts w (List.mem_cons_of_mem _ h)
  intro n9
  induction n9 with
  | zero =>
    intro i hi hinv H locs ls hP hD hS hl
    obtain rfl : cn = i := by omega
    refine lv_iload_n hx hb d_T_valueBy_31 rfl (lv_at hl 2 rfl) ?_
    refine lv_aload_n hx hb d_T_valueBy_32 rfl (lv_at hl 0 rfl) ?_
    refine va_get (D := (dC, dI)) (ci := 2) (v := .int (nI cn)) (C := R_T) (T := F_T) (N := 3) hx hb ha ui_T hown hK hP 0 rfl rfl 2 (by decide) (ha _ wm_T_7) (fun _ h9 => h9) rfl d_T_valueBy_33 ?_
    refine lv_icmp_ge (tgt := 62) hx hb d_T_valueBy_36 (by decide) (fun hc => ?_) (fun hc => ?_)
    · exact K hinv _ _ _ hP hD hS (lv_sub hl [0, 1, 2] rfl)
    · exact absurd (show nI cn ≤ nI cn from nI_le (by omega) (by omega)) hc
  | succ n9 ih =>
    intro i hi hinv H locs ls hP hD hS hl
    have hlt : i < cn := by omega
    refine lv_iload_n hx hb d_T_valueBy_31 rfl (lv_at hl 2 rfl) ?_
    refine lv_aload_n hx hb d_T_valueBy_32 rfl (lv_at hl 0 rfl) ?_
    refine va_get (D := (dC, dI)) (ci := 2) (v := .int (nI cn)) (C := R_T) (T := F_T) (N := 3) hx hb ha ui_T hown hK hP 0 rfl rfl 2 (by decide) (ha _ wm_T_7) (fun _ h9 => h9) rfl d_T_valueBy_33 ?_
    refine lv_icmp_ge (tgt := 62) hx hb d_T_valueBy_36 (by decide) (fun hc => ?_) (fun hc => ?_)
    · exact absurd (show nI cn ≤ nI i from hc) (nI_ge (by omega) (by omega))
    · refine lv_iload_n hx hb d_T_valueBy_39 rfl (lv_at hl 1 rfl) ?_
      refine lv_aload_n hx hb d_T_valueBy_40 rfl (lv_at hl 0 rfl) ?_
      refine va_get (D := (dC, dI)) (ci := 2) (v := .ref tp) (C := R_T) (T := F_T) (N := 3) hx hb ha ui_T hown hK hP 0 rfl rfl 0 (by decide) (ha _ wm_T_5) (fun _ h9 => h9) rfl d_T_valueBy_41 ?_
      refine lv_iload_n hx hb d_T_valueBy_44 rfl (lv_at hl 2 rfl) ?_
      refine ct_iald hx hb hK hP 1 0 rfl rfl i rfl (by omega) (by omega) d_T_valueBy_45 ?_
      refine lv_icmp_gt (tgt := 56) hx hb d_T_valueBy_46 (by decide) (fun h2 => ?_) (fun h2 => ?_)
      · refine lv_iinc (v := (nI (i + 1))) (lv' := [(2, .int (nI (i + 1))), (0, .ref h0), (1, .int pl)]) hx hb d_T_valueBy_56 hl (k := 2) rfl (by exact nI_1 i) (by decide) rfl (fun ls hl => ?_)
        refine lv_goto (tgt := 31) hx hb d_T_valueBy_59 (by decide) ?_
        exact ih (i + 1) (by omega) ⟨by omega, hinv.2.trans (if_neg (Int32.not_le.mpr h2))⟩ _ _ _ hP hD hS (lv_sub hl [1, 2, 0] rfl)
      · refine lv_aload_n hx hb d_T_valueBy_49 rfl (lv_at hl 0 rfl) ?_
        refine lv_iload_n hx hb d_T_valueBy_50 rfl (lv_at hl 2 rfl) ?_
        refine lv_iload_n hx hb d_T_valueBy_51 rfl (lv_at hl 1 rfl) ?_
        refine cs_calll (va_runV (As := [.int (nI i), .int pl]) (rest := []) ⟨hx, hb, hml, hown, ha⟩ (c_T_valueBefore l dC dI h0 tp tv cI cn hcn P V i (by omega) pl _) (cwV 2 ha g_T_T_valueBefore rfl rfl rfl (by decide +kernel) ⟨hRf, hRl⟩) (ct_preV ct_G0ok trivial hK hP hD hS hA [0, 1, 2] rfl (by decide) [0] rfl 0 2 rfl rfl rfl) rfl rfl hl.1 rfl (lv_room (Nat.le_of_ble_eq_true rfl)) d_T_valueBy_52 ⟨hRc, hRs⟩) hP hD hS hA [0, 1, 2] rfl (by decide) (fun _ => rfl) (fun r9 u H locs hw hP hD hS => ?_)
        have hP : va_P (dC, dI) cl9 [(h0, .inr (2, [.ref tp, .ref tv, .int (nI cn)])), (tp, .inl (cI, 20, .inl P)), (tv, .inl (cI, 20, .inl V))] H := hP
        have hD : va_D A [(h0, .inr (2, [.ref tp, .ref tv, .int (nI cn)])), (tp, .inl (cI, 20, .inl P)), (tv, .inl (cI, 20, .inl V))] := hD
        exact Kx r9 (hw.trans (hinv.2.trans (if_pos (Int32.not_lt.mp h2))).symm) _ _ _ hP hD hS
set_option maxHeartbeats 4000000 in
set_option maxRecDepth 100000 in
/-- the value at a place -/
theorem c_T_valueBy (l : Launch) (dC : Nat → ClassId) (dI : Nat → Nat → Nat) (h0 tp tv : Nat) (cI : ClassId) (cn : Nat) (hcn : cn ≤ 20) (P V : Nat → Int32) (pl : Int32) (sz : Nat) : ct_L l y_T_valueBy w_T_valueBy { frames := 2, cells := 0, slots := 0, locals := 53 } (dC, dI) cl9 [(cI, .int)] ct_G0 [.ref h0, .int pl] [(h0, .inr (2, [.ref tp, .ref tv, .int (nI cn)])), (tp, .inl (cI, 20, .inl P)), (tv, .inl (cI, 20, .inl V))] sz (S := Unit) (fun r _ => r = tb_val cn P V pl) (fun _ : Unit => [(cI, .int)]) (fun _ => [(h0, .inr (2, [.ref tp, .ref tv, .int (nI cn)])), (tp, .inl (cI, 20, .inl P)), (tv, .inl (cI, 20, .inl V))]) 0 0 := by
  refine ct_of (Qf := fun A => va_Ql (fun r _ => r = tb_val cn P V pl) (ct_B (S := Unit) (dC, dI) cl9 (fun _ : Unit => [(cI, .int)]) A (fun _ => [(h0, .inr (2, [.ref tp, .ref tv, .int (nI cn)])), (tp, .inl (cI, 20, .inl P)), (tv, .inl (cI, 20, .inl V))])) A) (cc := b_T_valueBy) (maxL := 3) (ret := ((some .long))) (by decide) rfl (Nat.le_of_ble_eq_true rfl) ?_
  intro p e s m below meth c A ls hF hA hP hK hD hG hS hl
  obtain ⟨hx, hb, hr, hml, hts, hown, hlocks, hnm⟩ := id hF
  have hown : s.vm.findClass R_T = some m.cls := hown
  have ha : ∀ w ∈ al_T, w.before [.ref h0, .int pl].toArray s = true := fun w h => hts w (List.mem_cons_of_mem _ h)
  have hl : lv_has ls 3 [(0, .ref h0), (1, .int pl)] := hl
  refine lv_aload_n hx hb d_T_valueBy_0 rfl (lv_at hl 0 rfl) ?_
  refine va_get (D := (dC, dI)) (ci := 2) (v := .int (nI cn)) (C := R_T) (T := F_T) (N := 3) hx hb ha ui_T hown hK hP 0 rfl rfl 2 (by decide) (ha _ wm_T_7) (fun _ h9 => h9) rfl d_T_valueBy_1 ?_
  refine lv_if_ne (tgt := 11) hx hb d_T_valueBy_4 (by decide) (fun hq => ?_) (fun hq => ?_)
  · have hp : ¬ cn = 0 := fun e => hq (by rw [e]; rfl)
    refine lv_iload_n hx hb d_T_valueBy_11 rfl (lv_at hl 1 rfl) ?_
    refine lv_aload_n hx hb d_T_valueBy_12 rfl (lv_at hl 0 rfl) ?_
    refine va_get (D := (dC, dI)) (ci := 2) (v := .ref tp) (C := R_T) (T := F_T) (N := 3) hx hb ha ui_T hown hK hP 0 rfl rfl 0 (by decide) (ha _ wm_T_5) (fun _ h9 => h9) rfl d_T_valueBy_13 ?_
    refine lv_iconst (v := 0) hx hb d_T_valueBy_16 (by decide) ?_
    refine ct_iald hx hb hK hP 1 0 rfl rfl 0 rfl (by omega) (by omega) d_T_valueBy_17 ?_
    refine lv_icmp_gt (tgt := 29) hx hb d_T_valueBy_18 (by decide) (fun h1 => ?_) (fun h1 => ?_)
    · refine lv_iconst (v := 1) hx hb d_T_valueBy_29 (by decide) ?_
      refine lv_istore_n (lv' := [(2, .int 1), (0, .ref h0), (1, .int pl)]) hx hb d_T_valueBy_30 rfl hl (by decide) rfl (fun ls hl => ?_)
      refine lp_T_valueBy (h0 := h0) (tp := tp) (tv := tv) (cI := cI) (cn := cn) (P := P) (V := V) (pl := pl) hF hA hK hcn (Nat.le_of_ble_eq_true rfl) (Nat.le_of_ble_eq_true rfl) (Nat.le_of_ble_eq_true rfl) (Nat.le_of_ble_eq_true rfl) (fun r9 hr9 H locs ls hP hD hS => ?_) (fun hinv H locs ls hP hD hS hl => ?_) (cn - 1) 1 (by omega) ⟨by omega, rfl⟩ _ _ _ hP hD hS (lv_sub hl [1, 2, 0] rfl)
      · exact ct_lret hF d_T_valueBy_55 () (hr9.trans ((if_neg hp).trans (if_neg (Int32.not_le.mpr h1))).symm) (hP.sub [0, 1, 2] rfl) (hD.sub [0, 1, 2] (by decide) rfl) hK hS
      · refine lv_aload_n hx hb d_T_valueBy_62 rfl (lv_at hl 0 rfl) ?_
        refine va_get (D := (dC, dI)) (ci := 2) (v := .ref tv) (C := R_T) (T := F_T) (N := 3) hx hb ha ui_T hown hK hP 0 rfl rfl 1 (by decide) (ha _ wm_T_6) (fun _ h9 => h9) rfl d_T_valueBy_63 ?_
        refine lv_aload_n hx hb d_T_valueBy_66 rfl (lv_at hl 0 rfl) ?_
        refine va_get (D := (dC, dI)) (ci := 2) (v := .int (nI cn)) (C := R_T) (T := F_T) (N := 3) hx hb ha ui_T hown hK hP 0 rfl rfl 2 (by decide) (ha _ wm_T_7) (fun _ h9 => h9) rfl d_T_valueBy_67 ?_
        refine lv_iconst (v := 1) hx hb d_T_valueBy_70 (by decide) ?_
        refine lv_isub hx hb d_T_valueBy_71 ?_
        refine ct_iald hx hb hK hP 2 0 rfl rfl (cn - 1) (pk_sub (a := cn) (b := 1) (by omega)) (by omega) (by omega) d_T_valueBy_72 ?_
        refine lv_i2l hx hb d_T_valueBy_73 rfl ?_
        exact ct_lret hF d_T_valueBy_74 () (((if_neg hp).trans (if_neg (Int32.not_le.mpr h1))).trans hinv.2).symm (hP.sub [0, 1, 2] rfl) (hD.sub [0, 1, 2] (by decide) rfl) hK hS
    · refine lv_aload_n hx hb d_T_valueBy_21 rfl (lv_at hl 0 rfl) ?_
      refine va_get (D := (dC, dI)) (ci := 2) (v := .ref tv) (C := R_T) (T := F_T) (N := 3) hx hb ha ui_T hown hK hP 0 rfl rfl 1 (by decide) (ha _ wm_T_6) (fun _ h9 => h9) rfl d_T_valueBy_22 ?_
      refine lv_iconst (v := 0) hx hb d_T_valueBy_25 (by decide) ?_
      refine ct_iald hx hb hK hP 2 0 rfl rfl 0 rfl (by omega) (by omega) d_T_valueBy_26 ?_
      refine lv_i2l hx hb d_T_valueBy_27 rfl ?_
      exact ct_lret hF d_T_valueBy_28 () ((if_neg hp).trans (if_pos (Int32.not_lt.mp h1))).symm (hP.sub [0, 1, 2] rfl) (hD.sub [0, 1, 2] (by decide) rfl) hK hS
  · have hp : cn = 0 := Decidable.byContradiction (fun q => nI_ne0 (Nat.pos_of_ne_zero q) (by omega) hq)
    refine lv_ldc2 (v := (-9223372036854775808)) hx hb hown (ha _ wm_T_21) d_T_valueBy_7 ?_
    exact ct_lret hF d_T_valueBy_10 () (if_pos hp).symm (hP.sub [0, 1, 2] rfl) (hD.sub [0, 1, 2] (by decide) rfl) hK hS
