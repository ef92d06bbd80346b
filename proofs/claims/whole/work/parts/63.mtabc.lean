set_option maxHeartbeats 4000000 in
set_option maxRecDepth 100000 in
/-- isTable -/
theorem c_M_isTable (l : Launch) (dC : Nat → ClassId) (dI : Nat → Nat → Nat) (mx : Nat) (th : Int32) (sd : Int64) (n : Nat) (ro : Nat) (pl : Nat) (vl : Nat) (f : Nat) (pa : Nat) (pr : Nat) (t : Int32) (sz : Nat) : ct_I l y_M_isTable w_M_isTable { frames := 0, cells := 0, slots := 0, locals := 0 } (dC, dI) cl9 [] ct_G0 [.ref mx, .int t] [(mx, .inr (4, [.int th, .long sd, .int (nI n), .ref ro, .ref pl, .ref vl, .int (nI f), .ref pa, .ref pr]))] sz (S := Unit) (fun z _ => z = it_v n t) (fun _ : Unit => []) (fun _ => [(mx, .inr (4, [.int th, .long sd, .int (nI n), .ref ro, .ref pl, .ref vl, .int (nI f), .ref pa, .ref pr]))]) 0 0 := by
  refine ct_of (Qf := fun A => va_Qi (fun z _ => z = it_v n t) (ct_B (S := Unit) (dC, dI) cl9 (fun _ : Unit => []) A (fun _ => [(mx, .inr (4, [.int th, .long sd, .int (nI n), .ref ro, .ref pl, .ref vl, .int (nI f), .ref pa, .ref pr]))])) A) (cc := b_M_isTable) (maxL := 2) (ret := ((some .boolean))) (by decide) rfl (Nat.le_of_ble_eq_true rfl) ?_
  intro p e s m below meth c A ls hF hA hP hK hD hG hS hl
  obtain ⟨hx, hb, hr, hml, hts, hown, hlocks, hnm⟩ := id hF
  have hown : s.vm.findClass R_M = some m.cls := hown
  have ha : ∀ w ∈ al_M, w.before [.ref mx, .int t].toArray s = true := fun w h => hts w (List.mem_cons_of_mem _ h)
  have hl : lv_has ls 2 [(0, .ref mx), (1, .int t)] := hl
  refine lv_iload_n hx hb d_M_isTable_0 rfl (lv_at hl 1 rfl) ?_
  refine lv_if_lt (tgt := 16) hx hb d_M_isTable_1 (by decide) (fun h1 => ?_) (fun h1 => ?_)
  · refine lv_iconst (v := 0) hx hb d_M_isTable_16 (by decide) ?_
    exact ct_zret hF d_M_isTable_17 (by decide) () (if_pos h1).symm (hP.sub [0] rfl) (hD.sub [0] (by decide) rfl) hK hS
  · refine lv_iload_n hx hb d_M_isTable_4 rfl (lv_at hl 1 rfl) ?_
    refine lv_aload_n hx hb d_M_isTable_5 rfl (lv_at hl 0 rfl) ?_
    refine va_get (D := (dC, dI)) (ci := 4) (v := .int (nI n)) (C := R_M) (T := F_M) (N := 9) hx hb ha ui_M hown hK hP 0 rfl rfl 2 (by decide) (ha _ wm_M_7) (fun _ h9 => h9) rfl d_M_isTable_6 ?_
    refine lv_icmp_ge (tgt := 16) hx hb d_M_isTable_9 (by decide) (fun h2 => ?_) (fun h2 => ?_)
    · refine lv_iconst (v := 0) hx hb d_M_isTable_16 (by decide) ?_
      exact ct_zret hF d_M_isTable_17 (by decide) () ((if_neg h1).trans (if_pos h2)).symm (hP.sub [0] rfl) (hD.sub [0] (by decide) rfl) hK hS
    · refine lv_iconst (v := 1) hx hb d_M_isTable_12 (by decide) ?_
      refine lv_goto (tgt := 17) hx hb d_M_isTable_13 (by decide) ?_
      exact ct_zret hF d_M_isTable_17 (by decide) () ((if_neg h1).trans (if_neg h2)).symm (hP.sub [0] rfl) (hD.sub [0] (by decide) rfl) hK hS
set_option maxHeartbeats 4000000 in
set_option maxRecDepth 100000 in
/-- down -/
theorem c_M_down (l : Launch) (dC : Nat → ClassId) (dI : Nat → Nat → Nat) (a b : Int64) (hb0 : ¬ b = 0) (sz : Nat) : ct_L l y_M_down w_M_down { frames := 0, cells := 0, slots := 0, locals := 0 } (dC, dI) cl9 [] ct_G0 [.long a, .long b] [] sz (S := Unit) (fun z _ => z = dn_v a b) (fun _ : Unit => []) (fun _ => []) 0 0 := by
  refine ct_of (Qf := fun A => va_Ql (fun z _ => z = dn_v a b) (ct_B (S := Unit) (dC, dI) cl9 (fun _ : Unit => []) A (fun _ => [])) A) (cc := b_M_down) (maxL := 6) (ret := ((some .long))) (by decide) rfl (Nat.le_of_ble_eq_true rfl) ?_
  intro p e s m below meth c A ls hF hA hP hK hD hG hS hl
  obtain ⟨hx, hb, hr, hml, hts, hown, hlocks, hnm⟩ := id hF
  have hown : s.vm.findClass R_M = some m.cls := hown
  have ha : ∀ w ∈ al_M, w.before [.long a, .long b].toArray s = true := fun w h => hts w (List.mem_cons_of_mem _ h)
  have hl : lv_has ls 6 [(0, .long a), (2, .long b)] := hl
  refine lv_lload_n hx hb d_M_down_0 rfl (lv_at hl 0 rfl) ?_
  refine lv_lload_n hx hb d_M_down_1 rfl (lv_at hl 1 rfl) ?_
  refine lv_ldiv hx hb d_M_down_2 hb0 ?_
  refine lv_lstore (lv' := [(4, .long (a / b)), (0, .long a), (2, .long b)]) hx hb d_M_down_3 hl (by decide) rfl (fun ls hl => ?_)
  refine lv_lload hx hb d_M_down_5 (lv_at hl 0 rfl) ?_
  refine lv_lload_n hx hb d_M_down_7 rfl (lv_at hl 2 rfl) ?_
  refine lv_lmul hx hb d_M_down_8 ?_
  refine lv_lload_n hx hb d_M_down_9 rfl (lv_at hl 1 rfl) ?_
  refine ct_jle (tgt := 21) hx hb d_M_down_10 d_M_down_11 (by decide) (fun h1 => ?_) (fun h1 => ?_)
  · refine lv_lload hx hb d_M_down_21 (lv_at hl 0 rfl) ?_
    exact ct_lret hF d_M_down_23 () (if_pos h1).symm (hP.sub [] rfl) (hD.sub [] (by decide) rfl) hK hS
  · refine lv_lload hx hb d_M_down_14 (lv_at hl 0 rfl) ?_
    refine lv_lconst (v := 1) hx hb d_M_down_16 (by decide) ?_
    refine lv_lsub hx hb d_M_down_17 ?_
    refine lv_goto (tgt := 23) hx hb d_M_down_18 (by decide) ?_
    exact ct_lret hF d_M_down_23 () (if_neg h1).symm (hP.sub [] rfl) (hD.sub [] (by decide) rfl) hK hS
set_option maxHeartbeats 4000000 in
set_option maxRecDepth 100000 in
/-- table() -/
theorem c_M_table (l : Launch) (dC : Nat → ClassId) (dI : Nat → Nat → Nat) (mx : Nat) (th : Int32) (sd : Int64) (n : Nat) (ro : Nat) (pl : Nat) (vl : Nat) (f : Nat) (pa : Nat) (pr : Nat) (cI : ClassId) (cc : Nat → Nat) (hn : n ≤ 6) (sz : Nat) : ct_I l y_M_table w_M_table { frames := 0, cells := 0, slots := 0, locals := 0 } (dC, dI) cl9 [(cI, .int)] ct_G0 [.ref mx] [(mx, .inr (4, [.int th, .long sd, .int (nI n), .ref ro, .ref pl, .ref vl, .int (nI f), .ref pa, .ref pr])), (ro, .inl (cI, 6, .inl (rw_R cc)))] sz (S := Int32 × Nat × (Nat → Nat)) (fun r (u : Int32 × Nat × (Nat → Nat)) => (n = 6 ∧ r = 0 ∧ u = (1, n, cc)) ∨ (¬ n = 6 ∧ r = nI n ∧ u = (0, n + 1, nu cc n 0))) (fun _ : Int32 × Nat × (Nat → Nat) => [(cI, .int)]) (fun u : Int32 × Nat × (Nat → Nat) => [(mx, .inr (4, [.int u.1, .long sd, .int (nI u.2.1), .ref ro, .ref pl, .ref vl, .int (nI f), .ref pa, .ref pr])), (ro, .inl (cI, 6, .inl (rw_R u.2.2)))]) 0 0 := by
  refine ct_of (Qf := fun A => va_Qi (fun r (u : Int32 × Nat × (Nat → Nat)) => (n = 6 ∧ r = 0 ∧ u = (1, n, cc)) ∨ (¬ n = 6 ∧ r = nI n ∧ u = (0, n + 1, nu cc n 0))) (ct_B (S := Int32 × Nat × (Nat → Nat)) (dC, dI) cl9 (fun _ : Int32 × Nat × (Nat → Nat) => [(cI, .int)]) A (fun u : Int32 × Nat × (Nat → Nat) => [(mx, .inr (4, [.int u.1, .long sd, .int (nI u.2.1), .ref ro, .ref pl, .ref vl, .int (nI f), .ref pa, .ref pr])), (ro, .inl (cI, 6, .inl (rw_R u.2.2)))])) A) (cc := b_M_table) (maxL := 1) (ret := ((some .int))) (by decide) rfl (Nat.le_of_ble_eq_true rfl) ?_
  intro p e s m below meth c A ls hF hA hP hK hD hG hS hl
  obtain ⟨hx, hb, hr, hml, hts, hown, hlocks, hnm⟩ := id hF
  have hown : s.vm.findClass R_M = some m.cls := hown
  have ha : ∀ w ∈ al_M, w.before [.ref mx].toArray s = true := fun w h => hts w (List.mem_cons_of_mem _ h)
  have hl : lv_has ls 1 [(0, .ref mx)] := hl
  refine lv_aload_n hx hb d_M_table_0 rfl (lv_at hl 0 rfl) ?_
  refine lv_aload_n hx hb d_M_table_1 rfl (lv_at hl 0 rfl) ?_
  refine va_get (D := (dC, dI)) (ci := 4) (v := .int (nI n)) (C := R_M) (T := F_M) (N := 9) hx hb ha ui_M hown hK hP 0 rfl rfl 2 (by decide) (ha _ wm_M_7) (fun _ h9 => h9) rfl d_M_table_2 ?_
  refine lv_bipush (v := 6) hx hb d_M_table_5 (by decide) ?_
  refine lv_icmp_ne (tgt := 14) hx hb d_M_table_7 (by decide) (fun h1 => ?_) (fun h1 => ?_)
  · have h6 : ¬ n = 6 := fun q => h1 (by rw [q]; rfl)
    refine lv_iconst (v := 0) hx hb d_M_table_14 (by decide) ?_
    refine va_put (D := (dC, dI)) (ci := 4) (v := .int 0) (ty := .int) (C := R_M) (T := F_M) (N := 9) hx hb ha ui_M ft_M tk_M nm_M hown hK hP hD hS 0 rfl rfl 0 (by decide) (ha _ wm_M_5) (fun _ h9 => h9) rfl (by decide +kernel) rfl rfl (Nat.le_of_ble_eq_true rfl) d_M_table_15 (fun H locs hP hD hS => ?_)
    have hP : va_P (dC, dI) cl9 [(mx, .inr (4, [.int 0, .long sd, .int (nI n), .ref ro, .ref pl, .ref vl, .int (nI f), .ref pa, .ref pr])), (ro, .inl (cI, 6, .inl (rw_R cc)))] H := hP
    have hD : va_D A [(mx, .inr (4, [.int 0, .long sd, .int (nI n), .ref ro, .ref pl, .ref vl, .int (nI f), .ref pa, .ref pr])), (ro, .inl (cI, 6, .inl (rw_R cc)))] := hD
    refine lv_aload_n hx hb d_M_table_18 rfl (lv_at hl 0 rfl) ?_
    refine va_get (D := (dC, dI)) (ci := 4) (v := .int 0) (C := R_M) (T := F_M) (N := 9) hx hb ha ui_M hown hK hP 0 rfl rfl 0 (by decide) (ha _ wm_M_5) (fun _ h9 => h9) rfl d_M_table_19 ?_
    refine lv_if_le (tgt := 27) hx hb d_M_table_22 (by decide) (fun hq => ?_) (fun hq => ?_)
    · refine lv_aload_n hx hb d_M_table_27 rfl (lv_at hl 0 rfl) ?_
      refine va_get (D := (dC, dI)) (ci := 4) (v := .ref ro) (C := R_M) (T := F_M) (N := 9) hx hb ha ui_M hown hK hP 0 rfl rfl 3 (by decide) (ha _ wm_M_8) (fun _ h9 => h9) rfl d_M_table_28 ?_
      refine lv_aload_n hx hb d_M_table_31 rfl (lv_at hl 0 rfl) ?_
      refine va_get (D := (dC, dI)) (ci := 4) (v := .int (nI n)) (C := R_M) (T := F_M) (N := 9) hx hb ha ui_M hown hK hP 0 rfl rfl 2 (by decide) (ha _ wm_M_7) (fun _ h9 => h9) rfl d_M_table_32 ?_
      refine lv_iconst (v := 0) hx hb d_M_table_35 (by decide) ?_
      refine ct_iast hx hb hK hP hD hS 1 0 rfl rfl n rfl (by omega) (by omega) d_M_table_36 (fun H locs hP hD hS => ?_)
      have hP : va_P (dC, dI) cl9 [(mx, .inr (4, [.int 0, .long sd, .int (nI n), .ref ro, .ref pl, .ref vl, .int (nI f), .ref pa, .ref pr])), (ro, .inl (cI, 6, .inl (upd (rw_R cc) n 0)))] H := hP
      have hD : va_D A [(mx, .inr (4, [.int 0, .long sd, .int (nI n), .ref ro, .ref pl, .ref vl, .int (nI f), .ref pa, .ref pr])), (ro, .inl (cI, 6, .inl (upd (rw_R cc) n 0)))] := hD
      have hP : va_P (dC, dI) cl9 [(mx, .inr (4, [.int 0, .long sd, .int (nI n), .ref ro, .ref pl, .ref vl, .int (nI f), .ref pa, .ref pr])), (ro, .inl (cI, 6, .inl (rw_R (nu cc n 0))))] H := by rw [← rw_upd]; exact hP
      have hD : va_D A [(mx, .inr (4, [.int 0, .long sd, .int (nI n), .ref ro, .ref pl, .ref vl, .int (nI f), .ref pa, .ref pr])), (ro, .inl (cI, 6, .inl (rw_R (nu cc n 0))))] := by rw [← rw_upd]; exact hD
      refine lv_aload_n hx hb d_M_table_37 rfl (lv_at hl 0 rfl) ?_
      refine lv_dup hx hb d_M_table_38 rfl ?_
      refine va_get (D := (dC, dI)) (ci := 4) (v := .int (nI n)) (C := R_M) (T := F_M) (N := 9) hx hb ha ui_M hown hK hP 0 rfl rfl 2 (by decide) (ha _ wm_M_7) (fun _ h9 => h9) rfl d_M_table_39 ?_
      refine lv_iconst (v := 1) hx hb d_M_table_42 (by decide) ?_
      refine lv_iadd hx hb d_M_table_43 ?_
      refine lv_topi (fun x_1 ex_1 => ?_)
      obtain rfl : x_1 = nI (n + 1) := ex_1.trans (nI_1 n)
      refine va_put (D := (dC, dI)) (ci := 4) (v := .int (nI (n + 1))) (ty := .int) (C := R_M) (T := F_M) (N := 9) hx hb ha ui_M ft_M tk_M nm_M hown hK hP hD hS 0 rfl rfl 2 (by decide) (ha _ wm_M_7) (fun _ h9 => h9) rfl (by decide +kernel) rfl rfl (Nat.le_of_ble_eq_true rfl) d_M_table_44 (fun H locs hP hD hS => ?_)
      have hP : va_P (dC, dI) cl9 [(mx, .inr (4, [.int 0, .long sd, .int (nI (n + 1)), .ref ro, .ref pl, .ref vl, .int (nI f), .ref pa, .ref pr])), (ro, .inl (cI, 6, .inl (rw_R (nu cc n 0))))] H := hP
      have hD : va_D A [(mx, .inr (4, [.int 0, .long sd, .int (nI (n + 1)), .ref ro, .ref pl, .ref vl, .int (nI f), .ref pa, .ref pr])), (ro, .inl (cI, 6, .inl (rw_R (nu cc n 0))))] := hD
      refine lv_aload_n hx hb d_M_table_47 rfl (lv_at hl 0 rfl) ?_
      refine va_get (D := (dC, dI)) (ci := 4) (v := .int (nI (n + 1))) (C := R_M) (T := F_M) (N := 9) hx hb ha ui_M hown hK hP 0 rfl rfl 2 (by decide) (ha _ wm_M_7) (fun _ h9 => h9) rfl d_M_table_48 ?_
      refine lv_iconst (v := 1) hx hb d_M_table_51 (by decide) ?_
      refine lv_isub hx hb d_M_table_52 ?_
      refine lv_topi (fun x_2 ex_2 => ?_)
      obtain rfl : x_2 = nI n := ex_2.trans (nI_s1 n)
      exact ct_iret hF d_M_table_53 (0, n + 1, nu cc n 0) (Or.inr ⟨h6, rfl, rfl⟩) (hP.sub [0, 1] rfl) (hD.sub [0, 1] (by decide) rfl) hK hS
    · exact absurd (by decide) hq
  · have h6 : n = 6 := nI_inj (by omega) (by omega) h1
    refine lv_iconst (v := 1) hx hb d_M_table_10 (by decide) ?_
    refine lv_goto (tgt := 15) hx hb d_M_table_11 (by decide) ?_
    refine va_put (D := (dC, dI)) (ci := 4) (v := .int 1) (ty := .int) (C := R_M) (T := F_M) (N := 9) hx hb ha ui_M ft_M tk_M nm_M hown hK hP hD hS 0 rfl rfl 0 (by decide) (ha _ wm_M_5) (fun _ h9 => h9) rfl (by decide +kernel) rfl rfl (Nat.le_of_ble_eq_true rfl) d_M_table_15 (fun H locs hP hD hS => ?_)
    have hP : va_P (dC, dI) cl9 [(mx, .inr (4, [.int 1, .long sd, .int (nI n), .ref ro, .ref pl, .ref vl, .int (nI f), .ref pa, .ref pr])), (ro, .inl (cI, 6, .inl (rw_R cc)))] H := hP
    have hD : va_D A [(mx, .inr (4, [.int 1, .long sd, .int (nI n), .ref ro, .ref pl, .ref vl, .int (nI f), .ref pa, .ref pr])), (ro, .inl (cI, 6, .inl (rw_R cc)))] := hD
    refine lv_aload_n hx hb d_M_table_18 rfl (lv_at hl 0 rfl) ?_
    refine va_get (D := (dC, dI)) (ci := 4) (v := .int 1) (C := R_M) (T := F_M) (N := 9) hx hb ha ui_M hown hK hP 0 rfl rfl 0 (by decide) (ha _ wm_M_5) (fun _ h9 => h9) rfl d_M_table_19 ?_
    refine lv_if_le (tgt := 27) hx hb d_M_table_22 (by decide) (fun hq => ?_) (fun hq => ?_)
    · exact absurd hq (by decide)
    · refine lv_iconst (v := 0) hx hb d_M_table_25 (by decide) ?_
      exact ct_iret hF d_M_table_26 (1, n, cc) (Or.inl ⟨h6, rfl, rfl⟩) (hP.sub [0, 1] rfl) (hD.sub [0, 1] (by decide) rfl) hK hS
set_option maxHeartbeats 4000000 in
set_option maxRecDepth 100000 in
/-- row(table, place, value) -/
theorem c_M_row (l : Launch) (dC : Nat → ClassId) (dI : Nat → Nat → Nat) (mx : Nat) (th : Int32) (sd : Int64) (n : Nat) (ro : Nat) (pl : Nat) (vl : Nat) (f : Nat) (pa : Nat) (pr : Nat) (cI : ClassId) (cc : Nat → Nat) (P9 : Nat → Int32) (V9 : Nat → Int32) (t p7 v7 : Int32) (hn : n ≤ 6) (hcc : ∀ j, j < n → cc j ≤ 20) (sz : Nat) : ct_I l y_M_row w_M_row { frames := 1, cells := 0, slots := 0, locals := 40 } (dC, dI) cl9 [(cI, .int)] ct_G0 [.ref mx, .int t, .int p7, .int v7] [(mx, .inr (4, [.int th, .long sd, .int (nI n), .ref ro, .ref pl, .ref vl, .int (nI f), .ref pa, .ref pr])), (ro, .inl (cI, 6, .inl (rw_R cc))), (pl, .inl (cI, 120, .inl P9)), (vl, .inl (cI, 120, .inl V9))] sz (S := Int32 × (Nat → Nat) × (Nat → Int32) × (Nat → Int32)) (fun r (u : Int32 × (Nat → Nat) × (Nat → Int32) × (Nat → Int32)) => rw_post n cc P9 V9 t p7 v7 r u) (fun _ : Int32 × (Nat → Nat) × (Nat → Int32) × (Nat → Int32) => [(cI, .int)]) (fun u : Int32 × (Nat → Nat) × (Nat → Int32) × (Nat → Int32) => [(mx, .inr (4, [.int u.1, .long sd, .int (nI n), .ref ro, .ref pl, .ref vl, .int (nI f), .ref pa, .ref pr])), (ro, .inl (cI, 6, .inl (rw_R u.2.1))), (pl, .inl (cI, 120, .inl u.2.2.1)), (vl, .inl (cI, 120, .inl u.2.2.2))]) 0 0 := by
  refine ct_of (Qf := fun A => va_Qi (fun r (u : Int32 × (Nat → Nat) × (Nat → Int32) × (Nat → Int32)) => rw_post n cc P9 V9 t p7 v7 r u) (ct_B (S := Int32 × (Nat → Nat) × (Nat → Int32) × (Nat → Int32)) (dC, dI) cl9 (fun _ : Int32 × (Nat → Nat) × (Nat → Int32) × (Nat → Int32) => [(cI, .int)]) A (fun u : Int32 × (Nat → Nat) × (Nat → Int32) × (Nat → Int32) => [(mx, .inr (4, [.int u.1, .long sd, .int (nI n), .ref ro, .ref pl, .ref vl, .int (nI f), .ref pa, .ref pr])), (ro, .inl (cI, 6, .inl (rw_R u.2.1))), (pl, .inl (cI, 120, .inl u.2.2.1)), (vl, .inl (cI, 120, .inl u.2.2.2))])) A) (cc := b_M_row) (maxL := 5) (ret := ((some .int))) (by decide) rfl (Nat.le_of_ble_eq_true rfl) ?_
  intro p e s m below meth c A ls hF hA hP hK hD hG hS hl
  obtain ⟨hx, hb, hr, hml, hts, hown, hlocks, hnm⟩ := id hF
  have hown : s.vm.findClass R_M = some m.cls := hown
  have ha : ∀ w ∈ al_M, w.before [.ref mx, .int t, .int p7, .int v7].toArray s = true := fun w h => hts w (List.mem_cons_of_mem _ h)
  have hl : lv_has ls 5 [(0, .ref mx), (1, .int t), (2, .int p7), (3, .int v7)] := hl
  refine lv_aload_n hx hb d_M_row_0 rfl (lv_at hl 0 rfl) ?_
  refine lv_aload_n hx hb d_M_row_1 rfl (lv_at hl 0 rfl) ?_
  refine lv_iload_n hx hb d_M_row_2 rfl (lv_at hl 1 rfl) ?_
  refine cs_calli (va_runV (As := [.int t]) (rest := [.ref mx]) ⟨hx, hb, hml, hown, ha⟩ (c_M_isTable l dC dI mx th sd n ro pl vl f pa pr t _) (cwV 1 ha g_M_M_isTable rfl rfl rfl (by decide +kernel) ⟨Nat.le_of_ble_eq_true rfl, Nat.le_of_ble_eq_true rfl⟩) (ct_preV ct_G0ok trivial hK hP hD hS hA [0] rfl (by decide) [] rfl 0 4 rfl rfl rfl) rfl rfl hl.1 rfl (lv_room (Nat.le_of_ble_eq_true rfl)) d_M_row_3 ⟨Nat.le_of_ble_eq_true rfl, Nat.le_of_ble_eq_true rfl⟩) hP hD hS hA [0] rfl (by decide) (fun _ => rfl) (fun r1 u7 H locs hr1 hP hD hS => ?_)
  have hP : va_P (dC, dI) cl9 [(mx, .inr (4, [.int th, .long sd, .int (nI n), .ref ro, .ref pl, .ref vl, .int (nI f), .ref pa, .ref pr])), (ro, .inl (cI, 6, .inl (rw_R cc))), (pl, .inl (cI, 120, .inl P9)), (vl, .inl (cI, 120, .inl V9))] H := hP
  have hD : va_D A [(mx, .inr (4, [.int th, .long sd, .int (nI n), .ref ro, .ref pl, .ref vl, .int (nI f), .ref pa, .ref pr])), (ro, .inl (cI, 6, .inl (rw_R cc))), (pl, .inl (cI, 120, .inl P9)), (vl, .inl (cI, 120, .inl V9))] := hD
  refine lv_if_eq (tgt := 23) hx hb d_M_row_6 (by decide) (fun h1 => ?_) (fun h1 => ?_)
  · refine lv_iconst (v := 1) hx hb d_M_row_23 (by decide) ?_
    refine lv_goto (tgt := 43) hx hb d_M_row_24 (by decide) ?_
    refine va_put (D := (dC, dI)) (ci := 4) (v := .int 1) (ty := .int) (C := R_M) (T := F_M) (N := 9) hx hb ha ui_M ft_M tk_M nm_M hown hK hP hD hS 0 rfl rfl 0 (by decide) (ha _ wm_M_5) (fun _ h9 => h9) rfl (by decide +kernel) rfl rfl (Nat.le_of_ble_eq_true rfl) d_M_row_43 (fun H locs hP hD hS => ?_)
    have hP : va_P (dC, dI) cl9 [(mx, .inr (4, [.int 1, .long sd, .int (nI n), .ref ro, .ref pl, .ref vl, .int (nI f), .ref pa, .ref pr])), (ro, .inl (cI, 6, .inl (rw_R cc))), (pl, .inl (cI, 120, .inl P9)), (vl, .inl (cI, 120, .inl V9))] H := hP
    have hD : va_D A [(mx, .inr (4, [.int 1, .long sd, .int (nI n), .ref ro, .ref pl, .ref vl, .int (nI f), .ref pa, .ref pr])), (ro, .inl (cI, 6, .inl (rw_R cc))), (pl, .inl (cI, 120, .inl P9)), (vl, .inl (cI, 120, .inl V9))] := hD
    refine lv_aload_n hx hb d_M_row_46 rfl (lv_at hl 0 rfl) ?_
    refine va_get (D := (dC, dI)) (ci := 4) (v := .int 1) (C := R_M) (T := F_M) (N := 9) hx hb ha ui_M hown hK hP 0 rfl rfl 0 (by decide) (ha _ wm_M_5) (fun _ h9 => h9) rfl d_M_row_47 ?_
    refine lv_if_le (tgt := 55) hx hb d_M_row_50 (by decide) (fun hq => ?_) (fun hq => ?_)
    · exact absurd hq (by decide)
    · refine lv_iconst (v := 0) hx hb d_M_row_53 (by decide) ?_
      exact ct_iret hF d_M_row_54 (1, cc, P9, V9) (Or.inl ⟨Or.inl (hr1.symm.trans h1), rfl, rfl⟩) (hP.sub [0, 1, 2, 3] rfl) (hD.sub [0, 1, 2, 3] (by decide) rfl) hK hS
  · obtain ⟨j, hj, ej⟩ := it_ex hn (fun q => h1 (hr1.trans q))
    have hcj := hcc j hj
    refine lv_iload_n hx hb d_M_row_9 rfl (lv_at hl 2 rfl) ?_
    refine cs_calli (va_runS (As := [.int p7]) (rest := [.ref mx]) ⟨hx, hb, hml, hown, ha⟩ (c_M_isNumber l dC dI p7 _) (va_cwS 1 ha g_M_M_isNumber rfl rfl rfl (by decide +kernel) ⟨Nat.le_of_ble_eq_true rfl, Nat.le_of_ble_eq_true rfl⟩) (ct_pre ct_G0ok trivial hK hP hD hS hA [] rfl (by decide) [] rfl) rfl rfl hl.1 rfl (lv_room (Nat.le_of_ble_eq_true rfl)) d_M_row_10 ⟨Nat.le_of_ble_eq_true rfl, Nat.le_of_ble_eq_true rfl⟩) hP hD hS hA [] rfl (by decide) (fun _ => rfl) (fun r2 u7 H locs hr2 hP hD hS => ?_)
    have hP : va_P (dC, dI) cl9 [(mx, .inr (4, [.int th, .long sd, .int (nI n), .ref ro, .ref pl, .ref vl, .int (nI f), .ref pa, .ref pr])), (ro, .inl (cI, 6, .inl (rw_R cc))), (pl, .inl (cI, 120, .inl P9)), (vl, .inl (cI, 120, .inl V9))] H := hP
    have hD : va_D A [(mx, .inr (4, [.int th, .long sd, .int (nI n), .ref ro, .ref pl, .ref vl, .int (nI f), .ref pa, .ref pr])), (ro, .inl (cI, 6, .inl (rw_R cc))), (pl, .inl (cI, 120, .inl P9)), (vl, .inl (cI, 120, .inl V9))] := hD
    refine lv_if_eq (tgt := 23) hx hb d_M_row_13 (by decide) (fun h2 => ?_) (fun h2 => ?_)
    · refine lv_iconst (v := 1) hx hb d_M_row_23 (by decide) ?_
      refine lv_goto (tgt := 43) hx hb d_M_row_24 (by decide) ?_
      refine va_put (D := (dC, dI)) (ci := 4) (v := .int 1) (ty := .int) (C := R_M) (T := F_M) (N := 9) hx hb ha ui_M ft_M tk_M nm_M hown hK hP hD hS 0 rfl rfl 0 (by decide) (ha _ wm_M_5) (fun _ h9 => h9) rfl (by decide +kernel) rfl rfl (Nat.le_of_ble_eq_true rfl) d_M_row_43 (fun H locs hP hD hS => ?_)
      have hP : va_P (dC, dI) cl9 [(mx, .inr (4, [.int 1, .long sd, .int (nI n), .ref ro, .ref pl, .ref vl, .int (nI f), .ref pa, .ref pr])), (ro, .inl (cI, 6, .inl (rw_R cc))), (pl, .inl (cI, 120, .inl P9)), (vl, .inl (cI, 120, .inl V9))] H := hP
      have hD : va_D A [(mx, .inr (4, [.int 1, .long sd, .int (nI n), .ref ro, .ref pl, .ref vl, .int (nI f), .ref pa, .ref pr])), (ro, .inl (cI, 6, .inl (rw_R cc))), (pl, .inl (cI, 120, .inl P9)), (vl, .inl (cI, 120, .inl V9))] := hD
      refine lv_aload_n hx hb d_M_row_46 rfl (lv_at hl 0 rfl) ?_
      refine va_get (D := (dC, dI)) (ci := 4) (v := .int 1) (C := R_M) (T := F_M) (N := 9) hx hb ha ui_M hown hK hP 0 rfl rfl 0 (by decide) (ha _ wm_M_5) (fun _ h9 => h9) rfl d_M_row_47 ?_
      refine lv_if_le (tgt := 55) hx hb d_M_row_50 (by decide) (fun hq => ?_) (fun hq => ?_)
      · exact absurd hq (by decide)
      · refine lv_iconst (v := 0) hx hb d_M_row_53 (by decide) ?_
        exact ct_iret hF d_M_row_54 (1, cc, P9, V9) (Or.inl ⟨Or.inr (Or.inl (hr2.symm.trans h2)), rfl, rfl⟩) (hP.sub [0, 1, 2, 3] rfl) (hD.sub [0, 1, 2, 3] (by decide) rfl) hK hS
    · refine lv_iload_n hx hb d_M_row_16 rfl (lv_at hl 3 rfl) ?_
      refine cs_calli (va_runS (As := [.int v7]) (rest := [.ref mx]) ⟨hx, hb, hml, hown, ha⟩ (c_M_isNumber l dC dI v7 _) (va_cwS 1 ha g_M_M_isNumber rfl rfl rfl (by decide +kernel) ⟨Nat.le_of_ble_eq_true rfl, Nat.le_of_ble_eq_true rfl⟩) (ct_pre ct_G0ok trivial hK hP hD hS hA [] rfl (by decide) [] rfl) rfl rfl hl.1 rfl (lv_room (Nat.le_of_ble_eq_true rfl)) d_M_row_17 ⟨Nat.le_of_ble_eq_true rfl, Nat.le_of_ble_eq_true rfl⟩) hP hD hS hA [] rfl (by decide) (fun _ => rfl) (fun r3 u7 H locs hr3 hP hD hS => ?_)
      have hP : va_P (dC, dI) cl9 [(mx, .inr (4, [.int th, .long sd, .int (nI n), .ref ro, .ref pl, .ref vl, .int (nI f), .ref pa, .ref pr])), (ro, .inl (cI, 6, .inl (rw_R cc))), (pl, .inl (cI, 120, .inl P9)), (vl, .inl (cI, 120, .inl V9))] H := hP
      have hD : va_D A [(mx, .inr (4, [.int th, .long sd, .int (nI n), .ref ro, .ref pl, .ref vl, .int (nI f), .ref pa, .ref pr])), (ro, .inl (cI, 6, .inl (rw_R cc))), (pl, .inl (cI, 120, .inl P9)), (vl, .inl (cI, 120, .inl V9))] := hD
      refine lv_if_ne (tgt := 27) hx hb d_M_row_20 (by decide) (fun h3 => ?_) (fun h3 => ?_)
      · have hp0 : ¬ is_nb p7 = 0 := fun q => h2 (hr2.trans q)
        have hv0 : ¬ is_nb v7 = 0 := fun q => h3 (hr3.trans q)
        rw [ej] at hl
        refine lv_aload_n hx hb d_M_row_27 rfl (lv_at hl 0 rfl) ?_
        refine va_get (D := (dC, dI)) (ci := 4) (v := .ref ro) (C := R_M) (T := F_M) (N := 9) hx hb ha ui_M hown hK hP 0 rfl rfl 3 (by decide) (ha _ wm_M_8) (fun _ h9 => h9) rfl d_M_row_28 ?_
        refine lv_iload_n hx hb d_M_row_31 rfl (lv_at hl 1 rfl) ?_
        refine ct_iald hx hb hK hP 1 0 rfl rfl j rfl (by omega) (by omega) d_M_row_32 ?_
        refine lv_topi (fun x_1 ex_1 => ?_)
        obtain rfl : x_1 = nI (cc j) := ex_1
        refine lv_bipush (v := 20) hx hb d_M_row_33 (by decide) ?_
        refine lv_icmp_ne (tgt := 42) hx hb d_M_row_35 (by decide) (fun h4 => ?_) (fun h4 => ?_)
        · have h20 : ¬ cc j = 20 := fun q => h4 (by rw [q]; rfl)
          refine lv_iconst (v := 0) hx hb d_M_row_42 (by decide) ?_
          refine va_put (D := (dC, dI)) (ci := 4) (v := .int 0) (ty := .int) (C := R_M) (T := F_M) (N := 9) hx hb ha ui_M ft_M tk_M nm_M hown hK hP hD hS 0 rfl rfl 0 (by decide) (ha _ wm_M_5) (fun _ h9 => h9) rfl (by decide +kernel) rfl rfl (Nat.le_of_ble_eq_true rfl) d_M_row_43 (fun H locs hP hD hS => ?_)
          have hP : va_P (dC, dI) cl9 [(mx, .inr (4, [.int 0, .long sd, .int (nI n), .ref ro, .ref pl, .ref vl, .int (nI f), .ref pa, .ref pr])), (ro, .inl (cI, 6, .inl (rw_R cc))), (pl, .inl (cI, 120, .inl P9)), (vl, .inl (cI, 120, .inl V9))] H := hP
          have hD : va_D A [(mx, .inr (4, [.int 0, .long sd, .int (nI n), .ref ro, .ref pl, .ref vl, .int (nI f), .ref pa, .ref pr])), (ro, .inl (cI, 6, .inl (rw_R cc))), (pl, .inl (cI, 120, .inl P9)), (vl, .inl (cI, 120, .inl V9))] := hD
          refine lv_aload_n hx hb d_M_row_46 rfl (lv_at hl 0 rfl) ?_
          refine va_get (D := (dC, dI)) (ci := 4) (v := .int 0) (C := R_M) (T := F_M) (N := 9) hx hb ha ui_M hown hK hP 0 rfl rfl 0 (by decide) (ha _ wm_M_5) (fun _ h9 => h9) rfl d_M_row_47 ?_
          refine lv_if_le (tgt := 55) hx hb d_M_row_50 (by decide) (fun hq => ?_) (fun hq => ?_)
          · refine lv_bipush (v := 20) hx hb d_M_row_55 (by decide) ?_
            refine lv_iload_n hx hb d_M_row_57 rfl (lv_at hl 1 rfl) ?_
            refine lv_imul hx hb d_M_row_58 ?_
            refine lv_aload_n hx hb d_M_row_59 rfl (lv_at hl 0 rfl) ?_
            refine va_get (D := (dC, dI)) (ci := 4) (v := .ref ro) (C := R_M) (T := F_M) (N := 9) hx hb ha ui_M hown hK hP 0 rfl rfl 3 (by decide) (ha _ wm_M_8) (fun _ h9 => h9) rfl d_M_row_60 ?_
            refine lv_iload_n hx hb d_M_row_63 rfl (lv_at hl 1 rfl) ?_
            refine ct_iald hx hb hK hP 1 0 rfl rfl j rfl (by omega) (by omega) d_M_row_64 ?_
            refine lv_topi (fun x_2 ex_2 => ?_)
            obtain rfl : x_2 = nI (cc j) := ex_2
            refine lv_iadd hx hb d_M_row_65 ?_
            refine lv_topi (fun x_3 ex_3 => ?_)
            obtain rfl : x_3 = nI (20 * j + cc j) := ex_3.trans (rw_ix j (cc j))
            refine lv_istore (lv' := [(4, .int (nI (20 * j + cc j))), (0, .ref mx), (1, .int (nI j)), (2, .int p7), (3, .int v7)]) hx hb d_M_row_66 hl (by decide) rfl (fun ls hl => ?_)
            refine lv_aload_n hx hb d_M_row_68 rfl (lv_at hl 1 rfl) ?_
            refine va_get (D := (dC, dI)) (ci := 4) (v := .ref ro) (C := R_M) (T := F_M) (N := 9) hx hb ha ui_M hown hK hP 0 rfl rfl 3 (by decide) (ha _ wm_M_8) (fun _ h9 => h9) rfl d_M_row_69 ?_
            refine lv_iload_n hx hb d_M_row_72 rfl (lv_at hl 2 rfl) ?_
            refine ct_iald hx hb hK hP 1 0 rfl rfl j rfl (by omega) (by omega) d_M_row_73 ?_
            refine lv_topi (fun x_4 ex_4 => ?_)
            obtain rfl : x_4 = nI (cc j) := ex_4
            refine lv_if_le (tgt := 92) hx hb d_M_row_74 (by decide) (fun h5 => ?_) (fun h5 => ?_)
            · have h0 : ¬ 0 < cc j := fun q => nI_nle q (by omega) h5
              refine lv_aload_n hx hb d_M_row_92 rfl (lv_at hl 1 rfl) ?_
              refine va_get (D := (dC, dI)) (ci := 4) (v := .ref pl) (C := R_M) (T := F_M) (N := 9) hx hb ha ui_M hown hK hP 0 rfl rfl 4 (by decide) (ha _ wm_M_9) (fun _ h9 => h9) rfl d_M_row_93 ?_
              refine lv_iload hx hb d_M_row_96 (lv_at hl 0 rfl) ?_
              refine lv_iload_n hx hb d_M_row_98 rfl (lv_at hl 3 rfl) ?_
              refine ct_iast hx hb hK hP hD hS 2 0 rfl rfl (20 * j + cc j) rfl (by omega) (by omega) d_M_row_99 (fun H locs hP hD hS => ?_)
              have hP : va_P (dC, dI) cl9 [(mx, .inr (4, [.int 0, .long sd, .int (nI n), .ref ro, .ref pl, .ref vl, .int (nI f), .ref pa, .ref pr])), (ro, .inl (cI, 6, .inl (rw_R cc))), (pl, .inl (cI, 120, .inl (upd P9 (20 * j + cc j) p7))), (vl, .inl (cI, 120, .inl V9))] H := hP
              have hD : va_D A [(mx, .inr (4, [.int 0, .long sd, .int (nI n), .ref ro, .ref pl, .ref vl, .int (nI f), .ref pa, .ref pr])), (ro, .inl (cI, 6, .inl (rw_R cc))), (pl, .inl (cI, 120, .inl (upd P9 (20 * j + cc j) p7))), (vl, .inl (cI, 120, .inl V9))] := hD
              refine lv_aload_n hx hb d_M_row_100 rfl (lv_at hl 1 rfl) ?_
              refine va_get (D := (dC, dI)) (ci := 4) (v := .ref vl) (C := R_M) (T := F_M) (N := 9) hx hb ha ui_M hown hK hP 0 rfl rfl 5 (by decide) (ha _ wm_M_10) (fun _ h9 => h9) rfl d_M_row_101 ?_
              refine lv_iload hx hb d_M_row_104 (lv_at hl 0 rfl) ?_
              refine lv_iload_n hx hb d_M_row_106 rfl (lv_at hl 4 rfl) ?_
              refine ct_iast hx hb hK hP hD hS 3 0 rfl rfl (20 * j + cc j) rfl (by omega) (by omega) d_M_row_107 (fun H locs hP hD hS => ?_)
              have hP : va_P (dC, dI) cl9 [(mx, .inr (4, [.int 0, .long sd, .int (nI n), .ref ro, .ref pl, .ref vl, .int (nI f), .ref pa, .ref pr])), (ro, .inl (cI, 6, .inl (rw_R cc))), (pl, .inl (cI, 120, .inl (upd P9 (20 * j + cc j) p7))), (vl, .inl (cI, 120, .inl (upd V9 (20 * j + cc j) v7)))] H := hP
              have hD : va_D A [(mx, .inr (4, [.int 0, .long sd, .int (nI n), .ref ro, .ref pl, .ref vl, .int (nI f), .ref pa, .ref pr])), (ro, .inl (cI, 6, .inl (rw_R cc))), (pl, .inl (cI, 120, .inl (upd P9 (20 * j + cc j) p7))), (vl, .inl (cI, 120, .inl (upd V9 (20 * j + cc j) v7)))] := hD
              refine lv_aload_n hx hb d_M_row_108 rfl (lv_at hl 1 rfl) ?_
              refine va_get (D := (dC, dI)) (ci := 4) (v := .ref ro) (C := R_M) (T := F_M) (N := 9) hx hb ha ui_M hown hK hP 0 rfl rfl 3 (by decide) (ha _ wm_M_8) (fun _ h9 => h9) rfl d_M_row_109 ?_
              refine lv_iload_n hx hb d_M_row_112 rfl (lv_at hl 2 rfl) ?_
              refine lv_dup2_11 hx hb d_M_row_113 rfl rfl ?_
              refine ct_iald hx hb hK hP 1 0 rfl rfl j rfl (by omega) (by omega) d_M_row_114 ?_
              refine lv_topi (fun x_5 ex_5 => ?_)
              obtain rfl : x_5 = nI (cc j) := ex_5
              refine lv_iconst (v := 1) hx hb d_M_row_115 (by decide) ?_
              refine lv_iadd hx hb d_M_row_116 ?_
              refine lv_topi (fun x_6 ex_6 => ?_)
              obtain rfl : x_6 = nI (cc j + 1) := ex_6.trans (nI_1 (cc j))
              refine ct_iast hx hb hK hP hD hS 1 0 rfl rfl j rfl (by omega) (by omega) d_M_row_117 (fun H locs hP hD hS => ?_)
              have hP : va_P (dC, dI) cl9 [(mx, .inr (4, [.int 0, .long sd, .int (nI n), .ref ro, .ref pl, .ref vl, .int (nI f), .ref pa, .ref pr])), (ro, .inl (cI, 6, .inl (upd (rw_R cc) j (nI (cc j + 1))))), (pl, .inl (cI, 120, .inl (upd P9 (20 * j + cc j) p7))), (vl, .inl (cI, 120, .inl (upd V9 (20 * j + cc j) v7)))] H := hP
              have hD : va_D A [(mx, .inr (4, [.int 0, .long sd, .int (nI n), .ref ro, .ref pl, .ref vl, .int (nI f), .ref pa, .ref pr])), (ro, .inl (cI, 6, .inl (upd (rw_R cc) j (nI (cc j + 1))))), (pl, .inl (cI, 120, .inl (upd P9 (20 * j + cc j) p7))), (vl, .inl (cI, 120, .inl (upd V9 (20 * j + cc j) v7)))] := hD
              have hP : va_P (dC, dI) cl9 [(mx, .inr (4, [.int 0, .long sd, .int (nI n), .ref ro, .ref pl, .ref vl, .int (nI f), .ref pa, .ref pr])), (ro, .inl (cI, 6, .inl (rw_R (nu cc j (cc j + 1))))), (pl, .inl (cI, 120, .inl (upd P9 (20 * j + cc j) p7))), (vl, .inl (cI, 120, .inl (upd V9 (20 * j + cc j) v7)))] H := by rw [← rw_upd]; exact hP
              have hD : va_D A [(mx, .inr (4, [.int 0, .long sd, .int (nI n), .ref ro, .ref pl, .ref vl, .int (nI f), .ref pa, .ref pr])), (ro, .inl (cI, 6, .inl (rw_R (nu cc j (cc j + 1))))), (pl, .inl (cI, 120, .inl (upd P9 (20 * j + cc j) p7))), (vl, .inl (cI, 120, .inl (upd V9 (20 * j + cc j) v7)))] := by rw [← rw_upd]; exact hD
              refine lv_aload_n hx hb d_M_row_118 rfl (lv_at hl 1 rfl) ?_
              refine va_get (D := (dC, dI)) (ci := 4) (v := .ref ro) (C := R_M) (T := F_M) (N := 9) hx hb ha ui_M hown hK hP 0 rfl rfl 3 (by decide) (ha _ wm_M_8) (fun _ h9 => h9) rfl d_M_row_119 ?_
              refine lv_iload_n hx hb d_M_row_122 rfl (lv_at hl 2 rfl) ?_
              refine ct_iald hx hb hK hP 1 0 rfl rfl j rfl (by omega) (by omega) d_M_row_123 ?_
              refine lv_topi (fun x_7 ex_7 => ?_)
              obtain rfl : x_7 = nI (cc j + 1) := ex_7.trans (congrArg nI (nu_eq cc j _))
              exact ct_iret hF d_M_row_124 (0, nu cc j (cc j + 1), upd P9 (20 * j + cc j) p7, upd V9 (20 * j + cc j) v7) (Or.inr ⟨j, hj, ej, hp0, hv0, Or.inr (Or.inr ⟨h20, fun q => h0 q.1, rfl, rfl⟩)⟩) (hP.sub [0, 1, 2, 3] rfl) (hD.sub [0, 1, 2, 3] (by decide) rfl) hK hS
            · have h0 : 0 < cc j := Nat.pos_of_ne_zero (fun e => h5 (by rw [e]; decide))
              refine lv_aload_n hx hb d_M_row_77 rfl (lv_at hl 1 rfl) ?_
              refine va_get (D := (dC, dI)) (ci := 4) (v := .ref pl) (C := R_M) (T := F_M) (N := 9) hx hb ha ui_M hown hK hP 0 rfl rfl 4 (by decide) (ha _ wm_M_9) (fun _ h9 => h9) rfl d_M_row_78 ?_
              refine lv_iload hx hb d_M_row_81 (lv_at hl 0 rfl) ?_
              refine lv_iconst (v := 1) hx hb d_M_row_83 (by decide) ?_
              refine lv_isub hx hb d_M_row_84 ?_
              refine ct_iald hx hb hK hP 2 0 rfl rfl (20 * j + cc j - 1) (pk_sub (a := 20 * j + cc j) (b := 1) (by omega)) (by omega) (by omega) d_M_row_85 ?_
              refine lv_iload_n hx hb d_M_row_86 rfl (lv_at hl 3 rfl) ?_
              refine lv_icmp_lt (tgt := 92) hx hb d_M_row_87 (by decide) (fun h6 => ?_) (fun h6 => ?_)
              · refine lv_aload_n hx hb d_M_row_92 rfl (lv_at hl 1 rfl) ?_
                refine va_get (D := (dC, dI)) (ci := 4) (v := .ref pl) (C := R_M) (T := F_M) (N := 9) hx hb ha ui_M hown hK hP 0 rfl rfl 4 (by decide) (ha _ wm_M_9) (fun _ h9 => h9) rfl d_M_row_93 ?_
                refine lv_iload hx hb d_M_row_96 (lv_at hl 0 rfl) ?_
                refine lv_iload_n hx hb d_M_row_98 rfl (lv_at hl 3 rfl) ?_
                refine ct_iast hx hb hK hP hD hS 2 0 rfl rfl (20 * j + cc j) rfl (by omega) (by omega) d_M_row_99 (fun H locs hP hD hS => ?_)
                have hP : va_P (dC, dI) cl9 [(mx, .inr (4, [.int 0, .long sd, .int (nI n), .ref ro, .ref pl, .ref vl, .int (nI f), .ref pa, .ref pr])), (ro, .inl (cI, 6, .inl (rw_R cc))), (pl, .inl (cI, 120, .inl (upd P9 (20 * j + cc j) p7))), (vl, .inl (cI, 120, .inl V9))] H := hP
                have hD : va_D A [(mx, .inr (4, [.int 0, .long sd, .int (nI n), .ref ro, .ref pl, .ref vl, .int (nI f), .ref pa, .ref pr])), (ro, .inl (cI, 6, .inl (rw_R cc))), (pl, .inl (cI, 120, .inl (upd P9 (20 * j + cc j) p7))), (vl, .inl (cI, 120, .inl V9))] := hD
                refine lv_aload_n hx hb d_M_row_100 rfl (lv_at hl 1 rfl) ?_
                refine va_get (D := (dC, dI)) (ci := 4) (v := .ref vl) (C := R_M) (T := F_M) (N := 9) hx hb ha ui_M hown hK hP 0 rfl rfl 5 (by decide) (ha _ wm_M_10) (fun _ h9 => h9) rfl d_M_row_101 ?_
                refine lv_iload hx hb d_M_row_104 (lv_at hl 0 rfl) ?_
                refine lv_iload_n hx hb d_M_row_106 rfl (lv_at hl 4 rfl) ?_
                refine ct_iast hx hb hK hP hD hS 3 0 rfl rfl (20 * j + cc j) rfl (by omega) (by omega) d_M_row_107 (fun H locs hP hD hS => ?_)
                have hP : va_P (dC, dI) cl9 [(mx, .inr (4, [.int 0, .long sd, .int (nI n), .ref ro, .ref pl, .ref vl, .int (nI f), .ref pa, .ref pr])), (ro, .inl (cI, 6, .inl (rw_R cc))), (pl, .inl (cI, 120, .inl (upd P9 (20 * j + cc j) p7))), (vl, .inl (cI, 120, .inl (upd V9 (20 * j + cc j) v7)))] H := hP
                have hD : va_D A [(mx, .inr (4, [.int 0, .long sd, .int (nI n), .ref ro, .ref pl, .ref vl, .int (nI f), .ref pa, .ref pr])), (ro, .inl (cI, 6, .inl (rw_R cc))), (pl, .inl (cI, 120, .inl (upd P9 (20 * j + cc j) p7))), (vl, .inl (cI, 120, .inl (upd V9 (20 * j + cc j) v7)))] := hD
                refine lv_aload_n hx hb d_M_row_108 rfl (lv_at hl 1 rfl) ?_
                refine va_get (D := (dC, dI)) (ci := 4) (v := .ref ro) (C := R_M) (T := F_M) (N := 9) hx hb ha ui_M hown hK hP 0 rfl rfl 3 (by decide) (ha _ wm_M_8) (fun _ h9 => h9) rfl d_M_row_109 ?_
                refine lv_iload_n hx hb d_M_row_112 rfl (lv_at hl 2 rfl) ?_
                refine lv_dup2_11 hx hb d_M_row_113 rfl rfl ?_
                refine ct_iald hx hb hK hP 1 0 rfl rfl j rfl (by omega) (by omega) d_M_row_114 ?_
                refine lv_topi (fun x_8 ex_8 => ?_)
                obtain rfl : x_8 = nI (cc j) := ex_8
                refine lv_iconst (v := 1) hx hb d_M_row_115 (by decide) ?_
                refine lv_iadd hx hb d_M_row_116 ?_
                refine lv_topi (fun x_9 ex_9 => ?_)
                obtain rfl : x_9 = nI (cc j + 1) := ex_9.trans (nI_1 (cc j))
                refine ct_iast hx hb hK hP hD hS 1 0 rfl rfl j rfl (by omega) (by omega) d_M_row_117 (fun H locs hP hD hS => ?_)
                have hP : va_P (dC, dI) cl9 [(mx, .inr (4, [.int 0, .long sd, .int (nI n), .ref ro, .ref pl, .ref vl, .int (nI f), .ref pa, .ref pr])), (ro, .inl (cI, 6, .inl (upd (rw_R cc) j (nI (cc j + 1))))), (pl, .inl (cI, 120, .inl (upd P9 (20 * j + cc j) p7))), (vl, .inl (cI, 120, .inl (upd V9 (20 * j + cc j) v7)))] H := hP
                have hD : va_D A [(mx, .inr (4, [.int 0, .long sd, .int (nI n), .ref ro, .ref pl, .ref vl, .int (nI f), .ref pa, .ref pr])), (ro, .inl (cI, 6, .inl (upd (rw_R cc) j (nI (cc j + 1))))), (pl, .inl (cI, 120, .inl (upd P9 (20 * j + cc j) p7))), (vl, .inl (cI, 120, .inl (upd V9 (20 * j + cc j) v7)))] := hD
                have hP : va_P (dC, dI) cl9 [(mx, .inr (4, [.int 0, .long sd, .int (nI n), .ref ro, .ref pl, .ref vl, .int (nI f), .ref pa, .ref pr])), (ro, .inl (cI, 6, .inl (rw_R (nu cc j (cc j + 1))))), (pl, .inl (cI, 120, .inl (upd P9 (20 * j + cc j) p7))), (vl, .inl (cI, 120, .inl (upd V9 (20 * j + cc j) v7)))] H := by rw [← rw_upd]; exact hP
                have hD : va_D A [(mx, .inr (4, [.int 0, .long sd, .int (nI n), .ref ro, .ref pl, .ref vl, .int (nI f), .ref pa, .ref pr])), (ro, .inl (cI, 6, .inl (rw_R (nu cc j (cc j + 1))))), (pl, .inl (cI, 120, .inl (upd P9 (20 * j + cc j) p7))), (vl, .inl (cI, 120, .inl (upd V9 (20 * j + cc j) v7)))] := by rw [← rw_upd]; exact hD
                refine lv_aload_n hx hb d_M_row_118 rfl (lv_at hl 1 rfl) ?_
                refine va_get (D := (dC, dI)) (ci := 4) (v := .ref ro) (C := R_M) (T := F_M) (N := 9) hx hb ha ui_M hown hK hP 0 rfl rfl 3 (by decide) (ha _ wm_M_8) (fun _ h9 => h9) rfl d_M_row_119 ?_
                refine lv_iload_n hx hb d_M_row_122 rfl (lv_at hl 2 rfl) ?_
                refine ct_iald hx hb hK hP 1 0 rfl rfl j rfl (by omega) (by omega) d_M_row_123 ?_
                refine lv_topi (fun x_10 ex_10 => ?_)
                obtain rfl : x_10 = nI (cc j + 1) := ex_10.trans (congrArg nI (nu_eq cc j _))
                exact ct_iret hF d_M_row_124 (0, nu cc j (cc j + 1), upd P9 (20 * j + cc j) p7, upd V9 (20 * j + cc j) v7) (Or.inr ⟨j, hj, ej, hp0, hv0, Or.inr (Or.inr ⟨h20, fun q => absurd q.2 (Int32.not_le.mpr h6), rfl, rfl⟩)⟩) (hP.sub [0, 1, 2, 3] rfl) (hD.sub [0, 1, 2, 3] (by decide) rfl) hK hS
              · refine lv_iconst (v := -1) hx hb d_M_row_90 (by decide) ?_
                exact ct_iret hF d_M_row_91 (0, cc, P9, V9) (Or.inr ⟨j, hj, ej, hp0, hv0, Or.inr (Or.inl ⟨h20, ⟨h0, Int32.not_lt.mp h6⟩, rfl, rfl⟩)⟩) (hP.sub [0, 1, 2, 3] rfl) (hD.sub [0, 1, 2, 3] (by decide) rfl) hK hS
          · exact absurd (by decide) hq
        · have h20 : cc j = 20 := nI_inj (by omega) (by omega) h4
          refine lv_iconst (v := 2) hx hb d_M_row_38 (by decide) ?_
          refine lv_goto (tgt := 43) hx hb d_M_row_39 (by decide) ?_
          refine va_put (D := (dC, dI)) (ci := 4) (v := .int 2) (ty := .int) (C := R_M) (T := F_M) (N := 9) hx hb ha ui_M ft_M tk_M nm_M hown hK hP hD hS 0 rfl rfl 0 (by decide) (ha _ wm_M_5) (fun _ h9 => h9) rfl (by decide +kernel) rfl rfl (Nat.le_of_ble_eq_true rfl) d_M_row_43 (fun H locs hP hD hS => ?_)
          have hP : va_P (dC, dI) cl9 [(mx, .inr (4, [.int 2, .long sd, .int (nI n), .ref ro, .ref pl, .ref vl, .int (nI f), .ref pa, .ref pr])), (ro, .inl (cI, 6, .inl (rw_R cc))), (pl, .inl (cI, 120, .inl P9)), (vl, .inl (cI, 120, .inl V9))] H := hP
          have hD : va_D A [(mx, .inr (4, [.int 2, .long sd, .int (nI n), .ref ro, .ref pl, .ref vl, .int (nI f), .ref pa, .ref pr])), (ro, .inl (cI, 6, .inl (rw_R cc))), (pl, .inl (cI, 120, .inl P9)), (vl, .inl (cI, 120, .inl V9))] := hD
          refine lv_aload_n hx hb d_M_row_46 rfl (lv_at hl 0 rfl) ?_
          refine va_get (D := (dC, dI)) (ci := 4) (v := .int 2) (C := R_M) (T := F_M) (N := 9) hx hb ha ui_M hown hK hP 0 rfl rfl 0 (by decide) (ha _ wm_M_5) (fun _ h9 => h9) rfl d_M_row_47 ?_
          refine lv_if_le (tgt := 55) hx hb d_M_row_50 (by decide) (fun hq => ?_) (fun hq => ?_)
          · exact absurd hq (by decide)
          · refine lv_iconst (v := 0) hx hb d_M_row_53 (by decide) ?_
            exact ct_iret hF d_M_row_54 (2, cc, P9, V9) (Or.inr ⟨j, hj, ej, hp0, hv0, Or.inl ⟨h20, rfl, rfl⟩⟩) (hP.sub [0, 1, 2, 3] rfl) (hD.sub [0, 1, 2, 3] (by decide) rfl) hK hS
      · refine lv_iconst (v := 1) hx hb d_M_row_23 (by decide) ?_
        refine lv_goto (tgt := 43) hx hb d_M_row_24 (by decide) ?_
        refine va_put (D := (dC, dI)) (ci := 4) (v := .int 1) (ty := .int) (C := R_M) (T := F_M) (N := 9) hx hb ha ui_M ft_M tk_M nm_M hown hK hP hD hS 0 rfl rfl 0 (by decide) (ha _ wm_M_5) (fun _ h9 => h9) rfl (by decide +kernel) rfl rfl (Nat.le_of_ble_eq_true rfl) d_M_row_43 (fun H locs hP hD hS => ?_)
        have hP : va_P (dC, dI) cl9 [(mx, .inr (4, [.int 1, .long sd, .int (nI n), .ref ro, .ref pl, .ref vl, .int (nI f), .ref pa, .ref pr])), (ro, .inl (cI, 6, .inl (rw_R cc))), (pl, .inl (cI, 120, .inl P9)), (vl, .inl (cI, 120, .inl V9))] H := hP
        have hD : va_D A [(mx, .inr (4, [.int 1, .long sd, .int (nI n), .ref ro, .ref pl, .ref vl, .int (nI f), .ref pa, .ref pr])), (ro, .inl (cI, 6, .inl (rw_R cc))), (pl, .inl (cI, 120, .inl P9)), (vl, .inl (cI, 120, .inl V9))] := hD
        refine lv_aload_n hx hb d_M_row_46 rfl (lv_at hl 0 rfl) ?_
        refine va_get (D := (dC, dI)) (ci := 4) (v := .int 1) (C := R_M) (T := F_M) (N := 9) hx hb ha ui_M hown hK hP 0 rfl rfl 0 (by decide) (ha _ wm_M_5) (fun _ h9 => h9) rfl d_M_row_47 ?_
        refine lv_if_le (tgt := 55) hx hb d_M_row_50 (by decide) (fun hq => ?_) (fun hq => ?_)
        · exact absurd hq (by decide)
        · refine lv_iconst (v := 0) hx hb d_M_row_53 (by decide) ?_
          exact ct_iret hF d_M_row_54 (1, cc, P9, V9) (Or.inl ⟨Or.inr (Or.inr (hr3.symm.trans h3)), rfl, rfl⟩) (hP.sub [0, 1, 2, 3] rfl) (hD.sub [0, 1, 2, 3] (by decide) rfl) hK hS
