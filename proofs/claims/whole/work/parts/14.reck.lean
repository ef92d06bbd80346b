def rk_rb (ab be : Int64) (u : rk_U) : rk_U := rk_sub 1 3 (rk_load 3 ab (rk_scl 1 be (rk_cpy 1 4 u)))
def rk_rbz (ab be : Int64) (u : rk_U) : Int32 := if wr_ng (rk_rb ab be u 2) = 0 ∧ wr_z (rk_rb ab be u 2) = 0 then 1 else 0
def rk_eB (ab be : Int64) (i : Nat) (u : rk_U) : rk_U := rk_as 0 1 (if ab < 0 ∧ nI (i + 1) &&& 1 = 1 then 1 else 0) (rk_dv 1 (pu_sl be 5 * (nI (i + 1)).toInt64) (rk_scl 1 (pu_abl ab) u))
def rk_eE (ab be : Int64) (u : rk_U) : rk_U := rk_it (rk_eB ab be) (rk_stop (fun i => wr_z (rk_it (rk_eB ab be) i u 2)) 399 0) u
def rk_raise (ab be : Int64) (u : rk_U) : rk_U := rk_it (fun _ => rk_mul 5 0 0) 5 (rk_eE ab be (rk_load 1 1 (rk_load 0 1 u)))
set_option maxHeartbeats 1000000 in
set_option maxRecDepth 100000 in
/-- the value times k, rounded down -/
theorem c_K_floorTimes (l : Launch) (dC : Nat → ClassId) (dI : Nat → Nat → Nat) (ad : Nat → Nat) (cL : ClassId) (u : rk_U) (k : Int64) (sz : Nat) : ct_L l y_K_floorTimes w_K_floorTimes { frames := 3, cells := 0, slots := 0, locals := 77 } (dC, dI) cl9 [(cL, .long)] ct_G0 [.ref (ad 0), .long k] (rk_w ad cL u) sz (S := rk_U) (fun r (u' : rk_U) => u' = rk_scl 0 k u ∧ r = wr_wh (rk_scl 0 k u 0)) (fun _ : rk_U => [(cL, .long)]) (fun u' : rk_U => rk_w ad cL u') 0 0 := by
  refine ct_of (Qf := fun A => va_Ql (fun r (u' : rk_U) => u' = rk_scl 0 k u ∧ r = wr_wh (rk_scl 0 k u 0)) (ct_B (S := rk_U) (dC, dI) cl9 (fun _ : rk_U => [(cL, .long)]) A (fun u' : rk_U => rk_w ad cL u')) A) (cc := b_K_floorTimes) (maxL := 3) (ret := ((some .long))) (by decide) rfl (Nat.le_of_ble_eq_true rfl) ?_
  intro p e s m below meth c A ls hF hA hP hK hD hG hS hl
  obtain ⟨hx, hb, hr, hml, hts, hown, hlocks, hnm⟩ := id hF
  have hown : s.vm.findClass R_K = some m.cls := hown
  have ha : ∀ w ∈ al_K, w.before [.ref (ad 0), .long k].toArray s = true := fun w h => hts w (List.mem_cons_of_mem _ h)
  have hl : lv_has ls 3 [(0, .ref (ad 0)), (1, .long k)] := hl
  refine lv_aload_n hx hb d_K_floorTimes_0 rfl (lv_at hl 0 rfl) ?_
  refine va_get (D := (dC, dI)) (ci := 1) (v := .ref (ad 1)) (C := R_K) (T := F_K) (N := 5) hx hb ha ui_K hown hK hP 0 rfl rfl 0 (by decide) (ha _ wm_K_6) (fun _ h9 => h9) rfl d_K_floorTimes_1 ?_
  refine lv_lload_n hx hb d_K_floorTimes_4 rfl (lv_at hl 1 rfl) ?_
  refine cs_callv (va_runV (As := [.long k]) (rest := []) ⟨hx, hb, hml, hown, ha⟩ (c_W_scale l dC dI (ad 1) (ad 2) (ad 3) cL (u 0) k _) (cwV 1 ha g_K_W_scale rfl rfl rfl (by decide +kernel) ⟨Nat.le_of_ble_eq_true rfl, Nat.le_of_ble_eq_true rfl⟩) (ct_preV ct_G0ok trivial hK hP hD hS hA [1, 2] rfl (by decide) [0] rfl 1 0 rfl rfl rfl) rfl rfl hl.1 rfl (lv_room (Nat.le_of_ble_eq_true rfl)) d_K_floorTimes_5 ⟨Nat.le_of_ble_eq_true rfl, Nat.le_of_ble_eq_true rfl⟩) hP hD hS hA [1, 2] rfl (by decide) (fun _ => rfl) (fun u7 H locs hw hP hD hS => ?_)
  obtain rfl : u7 = _ := hw.trans (ir_eq _).symm
  obtain ⟨hP, hD⟩ : va_P (dC, dI) cl9 (rk_w ad cL (rk_scl 0 k u)) H ∧ va_D A (rk_w ad cL (rk_scl 0 k u)) := ct_eqP (rkw1_0 ad cL u _) hP hD
  refine lv_aload_n hx hb d_K_floorTimes_8 rfl (lv_at hl 0 rfl) ?_
  refine va_get (D := (dC, dI)) (ci := 1) (v := .ref (ad 1)) (C := R_K) (T := F_K) (N := 5) hx hb ha ui_K hown hK hP 0 rfl rfl 0 (by decide) (ha _ wm_K_6) (fun _ h9 => h9) rfl d_K_floorTimes_9 ?_
  refine cs_calll (va_runV (As := []) (rest := []) ⟨hx, hb, hml, hown, ha⟩ (c_W_whole l dC dI (ad 1) (ad 2) (ad 3) cL ((rk_scl 0 k u) 0) _) (cwV 0 ha g_K_W_whole rfl rfl rfl (by decide +kernel) ⟨Nat.le_of_ble_eq_true rfl, Nat.le_of_ble_eq_true rfl⟩) (ct_preV ct_G0ok trivial hK hP hD hS hA [1, 2] rfl (by decide) [0] rfl 1 0 rfl rfl rfl) rfl rfl hl.1 rfl (lv_room (Nat.le_of_ble_eq_true rfl)) d_K_floorTimes_12 ⟨Nat.le_of_ble_eq_true rfl, Nat.le_of_ble_eq_true rfl⟩) hP hD hS hA [1, 2] rfl (by decide) (fun _ => rfl) (fun r9 u7 H locs hw hP hD hS => ?_)
  obtain rfl : r9 = wr_wh ((rk_scl 0 k u) 0) := hw.trans (ir_eq _).symm
  obtain ⟨hP, hD⟩ : va_P (dC, dI) cl9 (rk_w ad cL (rk_scl 0 k u)) H ∧ va_D A (rk_w ad cL (rk_scl 0 k u)) := ct_eqP (rkw0_0 ad cL (rk_scl 0 k u)) hP hD
  exact ct_lret hF d_K_floorTimes_15 (rk_scl 0 k u) ⟨rfl, rfl⟩ hP hD hK hS
set_option maxHeartbeats 1000000 in
set_option maxRecDepth 100000 in
/-- kept becomes value -/
theorem c_K_keepLog (l : Launch) (dC : Nat → ClassId) (dI : Nat → Nat → Nat) (ad : Nat → Nat) (cL : ClassId) (u : rk_U) (sz : Nat) : ct_V l y_K_keepLog w_K_keepLog { frames := 3, cells := 0, slots := 0, locals := 77 } (dC, dI) cl9 [(cL, .long)] ct_G0 [.ref (ad 0)] (rk_w ad cL u) sz (S := rk_U) (fun u' : rk_U => u' = rk_cpy 4 0 u) (fun _ : rk_U => [(cL, .long)]) (fun u' : rk_U => rk_w ad cL u') 0 0 := by
  refine ct_of (Qf := fun A => va_Qv (fun u' : rk_U => u' = rk_cpy 4 0 u) (ct_B (S := rk_U) (dC, dI) cl9 (fun _ : rk_U => [(cL, .long)]) A (fun u' : rk_U => rk_w ad cL u')) A) (cc := b_K_keepLog) (maxL := 1) (ret := none) (by decide) rfl (Nat.le_of_ble_eq_true rfl) ?_
  intro p e s m below meth c A ls hF hA hP hK hD hG hS hl
  obtain ⟨hx, hb, hr, hml, hts, hown, hlocks, hnm⟩ := id hF
  have hown : s.vm.findClass R_K = some m.cls := hown
  have ha : ∀ w ∈ al_K, w.before [.ref (ad 0)].toArray s = true := fun w h => hts w (List.mem_cons_of_mem _ h)
  have hl : lv_has ls 1 [(0, .ref (ad 0))] := hl
  refine lv_aload_n hx hb d_K_keepLog_0 rfl (lv_at hl 0 rfl) ?_
  refine va_get (D := (dC, dI)) (ci := 1) (v := .ref (ad 13)) (C := R_K) (T := F_K) (N := 5) hx hb ha ui_K hown hK hP 0 rfl rfl 4 (by decide) (ha _ wm_K_10) (fun _ h9 => h9) rfl d_K_keepLog_1 ?_
  refine lv_aload_n hx hb d_K_keepLog_4 rfl (lv_at hl 0 rfl) ?_
  refine va_get (D := (dC, dI)) (ci := 1) (v := .ref (ad 1)) (C := R_K) (T := F_K) (N := 5) hx hb ha ui_K hown hK hP 0 rfl rfl 0 (by decide) (ha _ wm_K_6) (fun _ h9 => h9) rfl d_K_keepLog_5 ?_
  refine cs_callv (va_runV (As := [.ref (ad 1)]) (rest := []) ⟨hx, hb, hml, hown, ha⟩ (c_W_loadWide l dC dI (ad 13) (ad 14) (ad 15) (ad 1) (ad 2) (ad 3) cL (u 8) (u 0) _) (cwV 1 ha g_K_W_loadWide rfl rfl rfl (by decide +kernel) ⟨Nat.le_of_ble_eq_true rfl, Nat.le_of_ble_eq_true rfl⟩) (ct_preV ct_G0ok trivial hK hP hD hS hA [13, 14, 1, 2] rfl (by decide) [0] rfl 13 0 rfl rfl rfl) rfl rfl hl.1 rfl (lv_room (Nat.le_of_ble_eq_true rfl)) d_K_keepLog_8 ⟨Nat.le_of_ble_eq_true rfl, Nat.le_of_ble_eq_true rfl⟩) hP hD hS hA [13, 14, 1, 2] rfl (by decide) (fun _ => rfl) (fun u7 H locs hw hP hD hS => ?_)
  obtain rfl : u7 = _ := hw.trans (ir_eq _).symm
  obtain ⟨hP, hD⟩ : va_P (dC, dI) cl9 (rk_w ad cL (rk_cpy 4 0 u)) H ∧ va_D A (rk_w ad cL (rk_cpy 4 0 u)) := ct_eqP (rkw2_4_0 ad cL u _) hP hD
  exact ct_vret hF d_K_keepLog_11 (rk_cpy 4 0 u) rfl hP hD hK hS
set_option maxHeartbeats 1000000 in
set_option maxRecDepth 100000 in
/-- whether a ratio is below what is kept -/
theorem c_K_isRatioBelowKept (l : Launch) (dC : Nat → ClassId) (dI : Nat → Nat → Nat) (ad : Nat → Nat) (cL : ClassId) (u : rk_U) (ab be : Int64) (sz : Nat) : ct_I l y_K_isRatioBelowKept w_K_isRatioBelowKept { frames := 3, cells := 0, slots := 0, locals := 77 } (dC, dI) cl9 [(cL, .long)] ct_G0 [.ref (ad 0), .long ab, .long be] (rk_w ad cL u) sz (S := rk_U) (fun r (u' : rk_U) => u' = rk_rb ab be u ∧ r = rk_rbz ab be u) (fun _ : rk_U => [(cL, .long)]) (fun u' : rk_U => rk_w ad cL u') 0 0 := by
  refine ct_of (Qf := fun A => va_Qi (fun r (u' : rk_U) => u' = rk_rb ab be u ∧ r = rk_rbz ab be u) (ct_B (S := rk_U) (dC, dI) cl9 (fun _ : rk_U => [(cL, .long)]) A (fun u' : rk_U => rk_w ad cL u')) A) (cc := b_K_isRatioBelowKept) (maxL := 5) (ret := ((some .boolean))) (by decide) rfl (Nat.le_of_ble_eq_true rfl) ?_
  intro p e s m below meth c A ls hF hA hP hK hD hG hS hl
  obtain ⟨hx, hb, hr, hml, hts, hown, hlocks, hnm⟩ := id hF
  have hown : s.vm.findClass R_K = some m.cls := hown
  have ha : ∀ w ∈ al_K, w.before [.ref (ad 0), .long ab, .long be].toArray s = true := fun w h => hts w (List.mem_cons_of_mem _ h)
  have hl : lv_has ls 5 [(0, .ref (ad 0)), (1, .long ab), (3, .long be)] := hl
  refine lv_aload_n hx hb d_K_isRatioBelowKept_0 rfl (lv_at hl 0 rfl) ?_
  refine va_get (D := (dC, dI)) (ci := 1) (v := .ref (ad 4)) (C := R_K) (T := F_K) (N := 5) hx hb ha ui_K hown hK hP 0 rfl rfl 1 (by decide) (ha _ wm_K_7) (fun _ h9 => h9) rfl d_K_isRatioBelowKept_1 ?_
  refine lv_aload_n hx hb d_K_isRatioBelowKept_4 rfl (lv_at hl 0 rfl) ?_
  refine va_get (D := (dC, dI)) (ci := 1) (v := .ref (ad 13)) (C := R_K) (T := F_K) (N := 5) hx hb ha ui_K hown hK hP 0 rfl rfl 4 (by decide) (ha _ wm_K_10) (fun _ h9 => h9) rfl d_K_isRatioBelowKept_5 ?_
  refine cs_callv (va_runV (As := [.ref (ad 13)]) (rest := []) ⟨hx, hb, hml, hown, ha⟩ (c_W_loadWide l dC dI (ad 4) (ad 5) (ad 6) (ad 13) (ad 14) (ad 15) cL (u 2) (u 8) _) (cwV 1 ha g_K_W_loadWide rfl rfl rfl (by decide +kernel) ⟨Nat.le_of_ble_eq_true rfl, Nat.le_of_ble_eq_true rfl⟩) (ct_preV ct_G0ok trivial hK hP hD hS hA [4, 5, 13, 14] rfl (by decide) [0] rfl 4 0 rfl rfl rfl) rfl rfl hl.1 rfl (lv_room (Nat.le_of_ble_eq_true rfl)) d_K_isRatioBelowKept_8 ⟨Nat.le_of_ble_eq_true rfl, Nat.le_of_ble_eq_true rfl⟩) hP hD hS hA [4, 5, 13, 14] rfl (by decide) (fun _ => rfl) (fun u7 H locs hw hP hD hS => ?_)
  obtain rfl : u7 = _ := hw.trans (ir_eq _).symm
  obtain ⟨hP, hD⟩ : va_P (dC, dI) cl9 (rk_w ad cL (rk_cpy 1 4 u)) H ∧ va_D A (rk_w ad cL (rk_cpy 1 4 u)) := ct_eqP (rkw2_1_4 ad cL u _) hP hD
  refine lv_aload_n hx hb d_K_isRatioBelowKept_11 rfl (lv_at hl 0 rfl) ?_
  refine va_get (D := (dC, dI)) (ci := 1) (v := .ref (ad 4)) (C := R_K) (T := F_K) (N := 5) hx hb ha ui_K hown hK hP 0 rfl rfl 1 (by decide) (ha _ wm_K_7) (fun _ h9 => h9) rfl d_K_isRatioBelowKept_12 ?_
  refine lv_lload_n hx hb d_K_isRatioBelowKept_15 rfl (lv_at hl 2 rfl) ?_
  refine cs_callv (va_runV (As := [.long be]) (rest := []) ⟨hx, hb, hml, hown, ha⟩ (c_W_scale l dC dI (ad 4) (ad 5) (ad 6) cL ((rk_cpy 1 4 u) 2) be _) (cwV 1 ha g_K_W_scale rfl rfl rfl (by decide +kernel) ⟨Nat.le_of_ble_eq_true rfl, Nat.le_of_ble_eq_true rfl⟩) (ct_preV ct_G0ok trivial hK hP hD hS hA [4, 5] rfl (by decide) [0] rfl 4 0 rfl rfl rfl) rfl rfl hl.1 rfl (lv_room (Nat.le_of_ble_eq_true rfl)) d_K_isRatioBelowKept_16 ⟨Nat.le_of_ble_eq_true rfl, Nat.le_of_ble_eq_true rfl⟩) hP hD hS hA [4, 5] rfl (by decide) (fun _ => rfl) (fun u7 H locs hw hP hD hS => ?_)
  obtain rfl : u7 = _ := hw.trans (ir_eq _).symm
  obtain ⟨hP, hD⟩ : va_P (dC, dI) cl9 (rk_w ad cL (rk_scl 1 be (rk_cpy 1 4 u))) H ∧ va_D A (rk_w ad cL (rk_scl 1 be (rk_cpy 1 4 u))) := ct_eqP (rkw1_1 ad cL (rk_cpy 1 4 u) _) hP hD
  refine lv_aload_n hx hb d_K_isRatioBelowKept_19 rfl (lv_at hl 0 rfl) ?_
  refine va_get (D := (dC, dI)) (ci := 1) (v := .ref (ad 10)) (C := R_K) (T := F_K) (N := 5) hx hb ha ui_K hown hK hP 0 rfl rfl 3 (by decide) (ha _ wm_K_9) (fun _ h9 => h9) rfl d_K_isRatioBelowKept_20 ?_
  refine lv_lload_n hx hb d_K_isRatioBelowKept_23 rfl (lv_at hl 1 rfl) ?_
  refine cs_callv (va_runV (As := [.long ab]) (rest := []) ⟨hx, hb, hml, hown, ha⟩ (c_W_load l dC dI (ad 10) (ad 11) (ad 12) cL ((rk_scl 1 be (rk_cpy 1 4 u)) 6) ab _) (cwV 1 ha g_K_W_load rfl rfl rfl (by decide +kernel) ⟨Nat.le_of_ble_eq_true rfl, Nat.le_of_ble_eq_true rfl⟩) (ct_preV ct_G0ok trivial hK hP hD hS hA [10, 11] rfl (by decide) [0] rfl 10 0 rfl rfl rfl) rfl rfl hl.1 rfl (lv_room (Nat.le_of_ble_eq_true rfl)) d_K_isRatioBelowKept_24 ⟨Nat.le_of_ble_eq_true rfl, Nat.le_of_ble_eq_true rfl⟩) hP hD hS hA [10, 11] rfl (by decide) (fun _ => rfl) (fun u7 H locs hw hP hD hS => ?_)
  obtain rfl : u7 = _ := hw.trans (ir_eq _).symm
  obtain ⟨hP, hD⟩ : va_P (dC, dI) cl9 (rk_w ad cL (rk_load 3 ab (rk_scl 1 be (rk_cpy 1 4 u)))) H ∧ va_D A (rk_w ad cL (rk_load 3 ab (rk_scl 1 be (rk_cpy 1 4 u)))) := ct_eqP (rkw1_3 ad cL (rk_scl 1 be (rk_cpy 1 4 u)) _) hP hD
  refine lv_aload_n hx hb d_K_isRatioBelowKept_27 rfl (lv_at hl 0 rfl) ?_
  refine va_get (D := (dC, dI)) (ci := 1) (v := .ref (ad 4)) (C := R_K) (T := F_K) (N := 5) hx hb ha ui_K hown hK hP 0 rfl rfl 1 (by decide) (ha _ wm_K_7) (fun _ h9 => h9) rfl d_K_isRatioBelowKept_28 ?_
  refine lv_aload_n hx hb d_K_isRatioBelowKept_31 rfl (lv_at hl 0 rfl) ?_
  refine va_get (D := (dC, dI)) (ci := 1) (v := .ref (ad 10)) (C := R_K) (T := F_K) (N := 5) hx hb ha ui_K hown hK hP 0 rfl rfl 3 (by decide) (ha _ wm_K_9) (fun _ h9 => h9) rfl d_K_isRatioBelowKept_32 ?_
  refine cs_callv (va_runV (As := [.ref (ad 10)]) (rest := []) ⟨hx, hb, hml, hown, ha⟩ (c_W_subtract l dC dI (ad 4) (ad 5) (ad 6) (ad 10) (ad 11) (ad 12) cL ((rk_load 3 ab (rk_scl 1 be (rk_cpy 1 4 u))) 2) ((rk_load 3 ab (rk_scl 1 be (rk_cpy 1 4 u))) 6) _) (cwV 1 ha g_K_W_subtract rfl rfl rfl (by decide +kernel) ⟨Nat.le_of_ble_eq_true rfl, Nat.le_of_ble_eq_true rfl⟩) (ct_preV ct_G0ok trivial hK hP hD hS hA [4, 5, 10, 11] rfl (by decide) [0] rfl 4 0 rfl rfl rfl) rfl rfl hl.1 rfl (lv_room (Nat.le_of_ble_eq_true rfl)) d_K_isRatioBelowKept_35 ⟨Nat.le_of_ble_eq_true rfl, Nat.le_of_ble_eq_true rfl⟩) hP hD hS hA [4, 5, 10, 11] rfl (by decide) (fun _ => rfl) (fun u7 H locs hw hP hD hS => ?_)
  obtain rfl : u7 = _ := hw.trans (ir_eq _).symm
  obtain ⟨hP, hD⟩ : va_P (dC, dI) cl9 (rk_w ad cL (rk_sub 1 3 (rk_load 3 ab (rk_scl 1 be (rk_cpy 1 4 u))))) H ∧ va_D A (rk_w ad cL (rk_sub 1 3 (rk_load 3 ab (rk_scl 1 be (rk_cpy 1 4 u))))) := ct_eqP (rkw2_1_3 ad cL (rk_load 3 ab (rk_scl 1 be (rk_cpy 1 4 u))) _) hP hD
  refine lv_aload_n hx hb d_K_isRatioBelowKept_38 rfl (lv_at hl 0 rfl) ?_
  refine va_get (D := (dC, dI)) (ci := 1) (v := .ref (ad 4)) (C := R_K) (T := F_K) (N := 5) hx hb ha ui_K hown hK hP 0 rfl rfl 1 (by decide) (ha _ wm_K_7) (fun _ h9 => h9) rfl d_K_isRatioBelowKept_39 ?_
  refine cs_calli (va_runV (As := []) (rest := []) ⟨hx, hb, hml, hown, ha⟩ (c_W_isNegative l dC dI (ad 4) (ad 5) (ad 6) cL ((rk_sub 1 3 (rk_load 3 ab (rk_scl 1 be (rk_cpy 1 4 u)))) 2) _) (cwV 0 ha g_K_W_isNegative rfl rfl rfl (by decide +kernel) ⟨Nat.le_of_ble_eq_true rfl, Nat.le_of_ble_eq_true rfl⟩) (ct_preV ct_G0ok trivial hK hP hD hS hA [4, 5] rfl (by decide) [0] rfl 4 0 rfl rfl rfl) rfl rfl hl.1 rfl (lv_room (Nat.le_of_ble_eq_true rfl)) d_K_isRatioBelowKept_42 ⟨Nat.le_of_ble_eq_true rfl, Nat.le_of_ble_eq_true rfl⟩) hP hD hS hA [4, 5] rfl (by decide) (fun _ => rfl) (fun r9 u7 H locs hw hP hD hS => ?_)
  obtain rfl : r9 = wr_ng ((rk_sub 1 3 (rk_load 3 ab (rk_scl 1 be (rk_cpy 1 4 u)))) 2) := hw.trans (ir_eq _).symm
  obtain ⟨hP, hD⟩ : va_P (dC, dI) cl9 (rk_w ad cL (rk_sub 1 3 (rk_load 3 ab (rk_scl 1 be (rk_cpy 1 4 u))))) H ∧ va_D A (rk_w ad cL (rk_sub 1 3 (rk_load 3 ab (rk_scl 1 be (rk_cpy 1 4 u))))) := ct_eqP (rkw0_1 ad cL (rk_sub 1 3 (rk_load 3 ab (rk_scl 1 be (rk_cpy 1 4 u))))) hP hD
  refine lv_if_ne (tgt := 62) hx hb d_K_isRatioBelowKept_45 (by decide) (fun h1 => ?_) (fun h1 => ?_)
  · refine lv_iconst (v := 0) hx hb d_K_isRatioBelowKept_62 (by decide) ?_
    exact ct_zret hF d_K_isRatioBelowKept_63 (by decide) (rk_sub 1 3 (rk_load 3 ab (rk_scl 1 be (rk_cpy 1 4 u)))) ⟨rfl, (if_neg (fun q => h1 q.1)).symm⟩ hP hD hK hS
  · refine lv_aload_n hx hb d_K_isRatioBelowKept_48 rfl (lv_at hl 0 rfl) ?_
    refine va_get (D := (dC, dI)) (ci := 1) (v := .ref (ad 4)) (C := R_K) (T := F_K) (N := 5) hx hb ha ui_K hown hK hP 0 rfl rfl 1 (by decide) (ha _ wm_K_7) (fun _ h9 => h9) rfl d_K_isRatioBelowKept_49 ?_
    refine cs_calli (va_runV (As := []) (rest := []) ⟨hx, hb, hml, hown, ha⟩ (c_W_isZero l dC dI (ad 4) (ad 5) (ad 6) cL ((rk_sub 1 3 (rk_load 3 ab (rk_scl 1 be (rk_cpy 1 4 u)))) 2) _) (cwV 0 ha g_K_W_isZero rfl rfl rfl (by decide +kernel) ⟨Nat.le_of_ble_eq_true rfl, Nat.le_of_ble_eq_true rfl⟩) (ct_preV ct_G0ok trivial hK hP hD hS hA [4, 5] rfl (by decide) [0] rfl 4 0 rfl rfl rfl) rfl rfl hl.1 rfl (lv_room (Nat.le_of_ble_eq_true rfl)) d_K_isRatioBelowKept_52 ⟨Nat.le_of_ble_eq_true rfl, Nat.le_of_ble_eq_true rfl⟩) hP hD hS hA [4, 5] rfl (by decide) (fun _ => rfl) (fun r9 u7 H locs hw hP hD hS => ?_)
    obtain rfl : r9 = wr_z ((rk_sub 1 3 (rk_load 3 ab (rk_scl 1 be (rk_cpy 1 4 u)))) 2) := hw.trans (ir_eq _).symm
    obtain ⟨hP, hD⟩ : va_P (dC, dI) cl9 (rk_w ad cL (rk_sub 1 3 (rk_load 3 ab (rk_scl 1 be (rk_cpy 1 4 u))))) H ∧ va_D A (rk_w ad cL (rk_sub 1 3 (rk_load 3 ab (rk_scl 1 be (rk_cpy 1 4 u))))) := ct_eqP (rkw0_1 ad cL (rk_sub 1 3 (rk_load 3 ab (rk_scl 1 be (rk_cpy 1 4 u))))) hP hD
    refine lv_if_ne (tgt := 62) hx hb d_K_isRatioBelowKept_55 (by decide) (fun h2 => ?_) (fun h2 => ?_)
    · refine lv_iconst (v := 0) hx hb d_K_isRatioBelowKept_62 (by decide) ?_
      exact ct_zret hF d_K_isRatioBelowKept_63 (by decide) (rk_sub 1 3 (rk_load 3 ab (rk_scl 1 be (rk_cpy 1 4 u)))) ⟨rfl, (if_neg (fun q => h2 q.2)).symm⟩ hP hD hK hS
    · refine lv_iconst (v := 1) hx hb d_K_isRatioBelowKept_58 (by decide) ?_
      refine lv_goto (tgt := 63) hx hb d_K_isRatioBelowKept_59 (by decide) ?_
      exact ct_zret hF d_K_isRatioBelowKept_63 (by decide) (rk_sub 1 3 (rk_load 3 ab (rk_scl 1 be (rk_cpy 1 4 u)))) ⟨rfl, (if_pos ⟨h1, h2⟩).symm⟩ hP hD hK hS
set_option maxHeartbeats 1000000 in
set_option maxRecDepth 100000 in
/-- the power's series -/
theorem lp_K_raiseE {p : Program} {l : Launch} {e : Env} {R : Room} {s : State} {m : MethodId} {args : Array Value} {below : List Frame} {meth : Method} {c : Code} {Q : State → Prop} {A : Nat → Prop} {cells slots : Nat} {dC : Nat → ClassId} {dI : Nat → Nat → Nat} {ad : Nat → Nat} {cL : ClassId} {u : rk_U} {ab : Int64} {be : Int64} (hF : ct_F p s m meth c b_K_raiseE none 10 w_K_raiseE y_K_raiseE args) (hA : ∀ q, s.heap.size ≤ q → A q) (hK : va_K (dC, dI) cl9 [(cL, .long)] s) (hRf : 3 ≤ R.frames) (hRl : 77 ≤ R.locals) (hRc : cells ≤ R.cells) (hRs : slots ≤ R.slots) 
    (K : ∀ (H : Heap) (locs : List Loc) (ls : Array Slot), va_P (dC, dI) cl9 (rk_w ad cL (rk_it (rk_eB ab be) (rk_stop (fun i => wr_z (rk_it (rk_eB ab be) i u 2)) 399 0) u)) H → va_D A (rk_w ad cL (rk_it (rk_eB ab be) (rk_stop (fun i => wr_z (rk_it (rk_eB ab be) i u 2)) 399 0) u)) → va_S A s.heap H locs → lv_has ls 10 [(0, .ref (ad 0))] → W p l e R s m args below meth c H locs cells slots Q (F0 m 106 ls [])) :
    ∀ (n9 i : Nat), i + n9 = 399 → (rk_stop (fun i => wr_z (rk_it (rk_eB ab be) i u 2)) 399 0 = rk_stop (fun i => wr_z (rk_it (rk_eB ab be) i u 2)) n9 i) → ∀ (H : Heap) (locs : List Loc) (ls : Array Slot), va_P (dC, dI) cl9 (rk_w ad cL (rk_it (rk_eB ab be) i u)) H → va_D A (rk_w ad cL (rk_it (rk_eB ab be) i u)) → va_S A s.heap H locs → lv_has ls 10 [(0, .ref (ad 0)), (1, .long ab), (5, .long (pu_abl ab)), (7, .long (pu_sl be 5)), (9, .int (nI (i + 1)))] → W p l e R s m args below meth c H locs cells slots Q (F0 m 30 ls []) := by
  obtain ⟨hx, hb, hr, hml, hts, hown, hlocks, hnm⟩ := id hF
  have hown : s.vm.findClass R_K = some m.cls := hown
  have ha : ∀ w ∈ al_K, w.before args s = true := fun w h => hts w (List.mem_cons_of_mem _ h)
  intro n9
  induction n9 with
  | zero =>
    intro i hi hinv H locs ls hP hD hS hl
    obtain rfl : 399 = i := by omega
    refine lv_iload hx hb d_K_raiseE_30 (lv_at hl 4 rfl) ?_
    refine lv_sipush (v := 400) hx hb d_K_raiseE_32 (by decide) ?_
    refine lv_icmp_ge (tgt := 106) hx hb d_K_raiseE_35 (by decide) (fun hc => ?_) (fun hc => ?_)
    · have e9 : rk_it (rk_eB ab be) (rk_stop (fun i => wr_z (rk_it (rk_eB ab be) i u 2)) 399 0) u = rk_it (rk_eB ab be) 399 u := congrArg (fun k => rk_it (rk_eB ab be) k u) hinv
      exact K _ _ _ (by rw [e9]; exact hP) (by rw [e9]; exact hD) hS (lv_sub hl [0] rfl)
    · exact absurd (show nI 400 ≤ nI (399 + 1) from nI_le (by omega) (by omega)) hc
  | succ n9 ih =>
    intro i hi hinv H locs ls hP hD hS hl
    have hlt : i < 399 := by omega
    refine lv_iload hx hb d_K_raiseE_30 (lv_at hl 4 rfl) ?_
    refine lv_sipush (v := 400) hx hb d_K_raiseE_32 (by decide) ?_
    refine lv_icmp_ge (tgt := 106) hx hb d_K_raiseE_35 (by decide) (fun hc => ?_) (fun hc => ?_)
    · exact absurd (show nI 400 ≤ nI (i + 1) from hc) (nI_ge (by omega) (by omega))
    · refine lv_aload_n hx hb d_K_raiseE_38 rfl (lv_at hl 0 rfl) ?_
      refine va_get (D := (dC, dI)) (ci := 1) (v := .ref (ad 4)) (C := R_K) (T := F_K) (N := 5) hx hb ha ui_K hown hK hP 0 rfl rfl 1 (by decide) (ha _ wm_K_7) (fun _ h9 => h9) rfl d_K_raiseE_39 ?_
      refine cs_calli (va_runV (As := []) (rest := []) ⟨hx, hb, hml, hown, ha⟩ (c_W_isZero l dC dI (ad 4) (ad 5) (ad 6) cL ((rk_it (rk_eB ab be) i u) 2) _) (cwV 0 ha g_K_W_isZero rfl rfl rfl (by decide +kernel) ⟨Nat.le_trans (Nat.le_of_ble_eq_true rfl) hRf, Nat.le_trans (Nat.le_of_ble_eq_true rfl) hRl⟩) (ct_preV ct_G0ok trivial hK hP hD hS hA [4, 5] rfl (by decide) [0] rfl 4 0 rfl rfl rfl) rfl rfl hl.1 rfl (lv_room (Nat.le_of_ble_eq_true rfl)) d_K_raiseE_42 ⟨hRc, hRs⟩) hP hD hS hA [4, 5] rfl (by decide) (fun _ => rfl) (fun r9 u7 H locs hw hP hD hS => ?_)
      obtain rfl : r9 = wr_z ((rk_it (rk_eB ab be) i u) 2) := hw.trans (ir_eq _).symm
      obtain ⟨hP, hD⟩ : va_P (dC, dI) cl9 (rk_w ad cL (rk_it (rk_eB ab be) i u)) H ∧ va_D A (rk_w ad cL (rk_it (rk_eB ab be) i u)) := ct_eqP (rkw0_1 ad cL (rk_it (rk_eB ab be) i u)) hP hD
      refine lv_if_ne (tgt := 106) hx hb d_K_raiseE_45 (by decide) (fun hz => ?_) (fun hz => ?_)
      · have e9 : rk_it (rk_eB ab be) (rk_stop (fun i => wr_z (rk_it (rk_eB ab be) i u 2)) 399 0) u = rk_it (rk_eB ab be) i u := congrArg (fun k => rk_it (rk_eB ab be) k u) (hinv.trans (if_neg hz))
        exact K _ _ _ (by rw [e9]; exact hP) (by rw [e9]; exact hD) hS (lv_sub hl [0] rfl)
      · refine lv_aload_n hx hb d_K_raiseE_48 rfl (lv_at hl 0 rfl) ?_
        refine va_get (D := (dC, dI)) (ci := 1) (v := .ref (ad 4)) (C := R_K) (T := F_K) (N := 5) hx hb ha ui_K hown hK hP 0 rfl rfl 1 (by decide) (ha _ wm_K_7) (fun _ h9 => h9) rfl d_K_raiseE_49 ?_
        refine lv_lload hx hb d_K_raiseE_52 (lv_at hl 2 rfl) ?_
        refine cs_callv (va_runV (As := [.long (pu_abl ab)]) (rest := []) ⟨hx, hb, hml, hown, ha⟩ (c_W_scale l dC dI (ad 4) (ad 5) (ad 6) cL ((rk_it (rk_eB ab be) i u) 2) (pu_abl ab) _) (cwV 1 ha g_K_W_scale rfl rfl rfl (by decide +kernel) ⟨Nat.le_trans (Nat.le_of_ble_eq_true rfl) hRf, Nat.le_trans (Nat.le_of_ble_eq_true rfl) hRl⟩) (ct_preV ct_G0ok trivial hK hP hD hS hA [4, 5] rfl (by decide) [0] rfl 4 0 rfl rfl rfl) rfl rfl hl.1 rfl (lv_room (Nat.le_of_ble_eq_true rfl)) d_K_raiseE_54 ⟨hRc, hRs⟩) hP hD hS hA [4, 5] rfl (by decide) (fun _ => rfl) (fun u7 H locs hw hP hD hS => ?_)
        obtain rfl : u7 = _ := hw.trans (ir_eq _).symm
        obtain ⟨hP, hD⟩ : va_P (dC, dI) cl9 (rk_w ad cL (rk_scl 1 (pu_abl ab) (rk_it (rk_eB ab be) i u))) H ∧ va_D A (rk_w ad cL (rk_scl 1 (pu_abl ab) (rk_it (rk_eB ab be) i u))) := ct_eqP (rkw1_1 ad cL (rk_it (rk_eB ab be) i u) _) hP hD
        refine lv_aload_n hx hb d_K_raiseE_57 rfl (lv_at hl 0 rfl) ?_
        refine va_get (D := (dC, dI)) (ci := 1) (v := .ref (ad 4)) (C := R_K) (T := F_K) (N := 5) hx hb ha ui_K hown hK hP 0 rfl rfl 1 (by decide) (ha _ wm_K_7) (fun _ h9 => h9) rfl d_K_raiseE_58 ?_
        refine lv_lload hx hb d_K_raiseE_61 (lv_at hl 3 rfl) ?_
        refine lv_iload hx hb d_K_raiseE_63 (lv_at hl 4 rfl) ?_
        refine lv_i2l hx hb d_K_raiseE_65 rfl ?_
        refine lv_lmul hx hb d_K_raiseE_66 ?_
        refine cs_callv (va_runV (As := [.long ((pu_sl be 5) * (((nI (i + 1)) : Int32).toInt64))]) (rest := []) ⟨hx, hb, hml, hown, ha⟩ (c_W_divide l dC dI (ad 4) (ad 5) (ad 6) cL ((rk_scl 1 (pu_abl ab) (rk_it (rk_eB ab be) i u)) 2) ((pu_sl be 5) * (((nI (i + 1)) : Int32).toInt64)) _) (cwV 1 ha g_K_W_divide rfl rfl rfl (by decide +kernel) ⟨Nat.le_trans (Nat.le_of_ble_eq_true rfl) hRf, Nat.le_trans (Nat.le_of_ble_eq_true rfl) hRl⟩) (ct_preV ct_G0ok trivial hK hP hD hS hA [4, 5] rfl (by decide) [0] rfl 4 0 rfl rfl rfl) rfl rfl hl.1 rfl (lv_room (Nat.le_of_ble_eq_true rfl)) d_K_raiseE_67 ⟨hRc, hRs⟩) hP hD hS hA [4, 5] rfl (by decide) (fun _ => rfl) (fun u7 H locs hw hP hD hS => ?_)
        obtain rfl : u7 = _ := hw.trans (ir_eq _).symm
        obtain ⟨hP, hD⟩ : va_P (dC, dI) cl9 (rk_w ad cL (rk_dv 1 ((pu_sl be 5) * (((nI (i + 1)) : Int32).toInt64)) (rk_scl 1 (pu_abl ab) (rk_it (rk_eB ab be) i u)))) H ∧ va_D A (rk_w ad cL (rk_dv 1 ((pu_sl be 5) * (((nI (i + 1)) : Int32).toInt64)) (rk_scl 1 (pu_abl ab) (rk_it (rk_eB ab be) i u)))) := ct_eqP (rkw1_1 ad cL (rk_scl 1 (pu_abl ab) (rk_it (rk_eB ab be) i u)) _) hP hD
        refine lv_aload_n hx hb d_K_raiseE_70 rfl (lv_at hl 0 rfl) ?_
        refine va_get (D := (dC, dI)) (ci := 1) (v := .ref (ad 1)) (C := R_K) (T := F_K) (N := 5) hx hb ha ui_K hown hK hP 0 rfl rfl 0 (by decide) (ha _ wm_K_6) (fun _ h9 => h9) rfl d_K_raiseE_71 ?_
        refine lv_aload_n hx hb d_K_raiseE_74 rfl (lv_at hl 0 rfl) ?_
        refine va_get (D := (dC, dI)) (ci := 1) (v := .ref (ad 4)) (C := R_K) (T := F_K) (N := 5) hx hb ha ui_K hown hK hP 0 rfl rfl 1 (by decide) (ha _ wm_K_7) (fun _ h9 => h9) rfl d_K_raiseE_75 ?_
        refine lv_lload_n hx hb d_K_raiseE_78 rfl (lv_at hl 1 rfl) ?_
        refine lv_lconst (v := 0) hx hb d_K_raiseE_79 (by decide) ?_
        refine ct_jge (tgt := 96) hx hb d_K_raiseE_80 d_K_raiseE_81 (by decide) (fun h1 => ?_) (fun h1 => ?_)
        · refine lv_iconst (v := 0) hx hb d_K_raiseE_96 (by decide) ?_
          refine cs_callv (va_runV (As := [.ref (ad 4), .int 0]) (rest := []) ⟨hx, hb, hml, hown, ha⟩ (c_W_addOrSubtract l dC dI (ad 1) (ad 2) (ad 3) (ad 4) (ad 5) (ad 6) cL ((rk_dv 1 ((pu_sl be 5) * (((nI (i + 1)) : Int32).toInt64)) (rk_scl 1 (pu_abl ab) (rk_it (rk_eB ab be) i u))) 0) ((rk_dv 1 ((pu_sl be 5) * (((nI (i + 1)) : Int32).toInt64)) (rk_scl 1 (pu_abl ab) (rk_it (rk_eB ab be) i u))) 2) 0 _) (cwV 2 ha g_K_W_addOrSubtract rfl rfl rfl (by decide +kernel) ⟨Nat.le_trans (Nat.le_of_ble_eq_true rfl) hRf, Nat.le_trans (Nat.le_of_ble_eq_true rfl) hRl⟩) (ct_preV ct_G0ok trivial hK hP hD hS hA [1, 2, 4, 5] rfl (by decide) [0] rfl 1 0 rfl rfl rfl) rfl rfl hl.1 rfl (lv_room (Nat.le_of_ble_eq_true rfl)) d_K_raiseE_97 ⟨hRc, hRs⟩) hP hD hS hA [1, 2, 4, 5] rfl (by decide) (fun _ => rfl) (fun u7 H locs hw hP hD hS => ?_)
          obtain rfl : u7 = _ := hw.trans (ir_eq _).symm
          obtain ⟨hP, hD⟩ : va_P (dC, dI) cl9 (rk_w ad cL (rk_as 0 1 0 (rk_dv 1 ((pu_sl be 5) * (((nI (i + 1)) : Int32).toInt64)) (rk_scl 1 (pu_abl ab) (rk_it (rk_eB ab be) i u))))) H ∧ va_D A (rk_w ad cL (rk_as 0 1 0 (rk_dv 1 ((pu_sl be 5) * (((nI (i + 1)) : Int32).toInt64)) (rk_scl 1 (pu_abl ab) (rk_it (rk_eB ab be) i u))))) := ct_eqP (rkw2_0_1 ad cL (rk_dv 1 ((pu_sl be 5) * (((nI (i + 1)) : Int32).toInt64)) (rk_scl 1 (pu_abl ab) (rk_it (rk_eB ab be) i u))) _) hP hD
          refine lv_iinc (v := (nI (i + 1 + 1))) (lv' := [(9, .int (nI (i + 1 + 1))), (0, .ref (ad 0)), (1, .long ab), (5, .long (pu_abl ab)), (7, .long (pu_sl be 5))]) hx hb d_K_raiseE_100 hl (k := 4) rfl (by exact nI_1 (i + 1)) (by decide) rfl (fun ls hl => ?_)
          refine lv_goto (tgt := 30) hx hb d_K_raiseE_103 (by decide) ?_
          have e9 : rk_it (rk_eB ab be) (i + 1) u = rk_as 0 1 0 (rk_dv 1 ((pu_sl be 5) * (((nI (i + 1)) : Int32).toInt64)) (rk_scl 1 (pu_abl ab) (rk_it (rk_eB ab be) i u))) := congrArg (fun z8 => rk_as 0 1 z8 (rk_dv 1 (pu_sl be 5 * (nI (i + 1)).toInt64) (rk_scl 1 (pu_abl ab) (rk_it (rk_eB ab be) i u)))) (if_neg (fun q => absurd q.1 (Int64.not_lt.mpr h1)))
          exact ih (i + 1) (by omega) (hinv.trans (if_pos hz)) _ _ _ (by rw [e9]; exact hP) (by rw [e9]; exact hD) hS (lv_sub hl [1, 2, 3, 4, 0] rfl)
        · refine lv_iload hx hb d_K_raiseE_84 (lv_at hl 4 rfl) ?_
          refine lv_iconst (v := 1) hx hb d_K_raiseE_86 (by decide) ?_
          refine lv_iand hx hb d_K_raiseE_87 ?_
          refine lv_iconst (v := 1) hx hb d_K_raiseE_88 (by decide) ?_
          refine lv_icmp_ne (tgt := 96) hx hb d_K_raiseE_89 (by decide) (fun h2 => ?_) (fun h2 => ?_)
          · refine lv_iconst (v := 0) hx hb d_K_raiseE_96 (by decide) ?_
            refine cs_callv (va_runV (As := [.ref (ad 4), .int 0]) (rest := []) ⟨hx, hb, hml, hown, ha⟩ (c_W_addOrSubtract l dC dI (ad 1) (ad 2) (ad 3) (ad 4) (ad 5) (ad 6) cL ((rk_dv 1 ((pu_sl be 5) * (((nI (i + 1)) : Int32).toInt64)) (rk_scl 1 (pu_abl ab) (rk_it (rk_eB ab be) i u))) 0) ((rk_dv 1 ((pu_sl be 5) * (((nI (i + 1)) : Int32).toInt64)) (rk_scl 1 (pu_abl ab) (rk_it (rk_eB ab be) i u))) 2) 0 _) (cwV 2 ha g_K_W_addOrSubtract rfl rfl rfl (by decide +kernel) ⟨Nat.le_trans (Nat.le_of_ble_eq_true rfl) hRf, Nat.le_trans (Nat.le_of_ble_eq_true rfl) hRl⟩) (ct_preV ct_G0ok trivial hK hP hD hS hA [1, 2, 4, 5] rfl (by decide) [0] rfl 1 0 rfl rfl rfl) rfl rfl hl.1 rfl (lv_room (Nat.le_of_ble_eq_true rfl)) d_K_raiseE_97 ⟨hRc, hRs⟩) hP hD hS hA [1, 2, 4, 5] rfl (by decide) (fun _ => rfl) (fun u7 H locs hw hP hD hS => ?_)
            obtain rfl : u7 = _ := hw.trans (ir_eq _).symm
            obtain ⟨hP, hD⟩ : va_P (dC, dI) cl9 (rk_w ad cL (rk_as 0 1 0 (rk_dv 1 ((pu_sl be 5) * (((nI (i + 1)) : Int32).toInt64)) (rk_scl 1 (pu_abl ab) (rk_it (rk_eB ab be) i u))))) H ∧ va_D A (rk_w ad cL (rk_as 0 1 0 (rk_dv 1 ((pu_sl be 5) * (((nI (i + 1)) : Int32).toInt64)) (rk_scl 1 (pu_abl ab) (rk_it (rk_eB ab be) i u))))) := ct_eqP (rkw2_0_1 ad cL (rk_dv 1 ((pu_sl be 5) * (((nI (i + 1)) : Int32).toInt64)) (rk_scl 1 (pu_abl ab) (rk_it (rk_eB ab be) i u))) _) hP hD
            refine lv_iinc (v := (nI (i + 1 + 1))) (lv' := [(9, .int (nI (i + 1 + 1))), (0, .ref (ad 0)), (1, .long ab), (5, .long (pu_abl ab)), (7, .long (pu_sl be 5))]) hx hb d_K_raiseE_100 hl (k := 4) rfl (by exact nI_1 (i + 1)) (by decide) rfl (fun ls hl => ?_)
            refine lv_goto (tgt := 30) hx hb d_K_raiseE_103 (by decide) ?_
            have e9 : rk_it (rk_eB ab be) (i + 1) u = rk_as 0 1 0 (rk_dv 1 ((pu_sl be 5) * (((nI (i + 1)) : Int32).toInt64)) (rk_scl 1 (pu_abl ab) (rk_it (rk_eB ab be) i u))) := congrArg (fun z8 => rk_as 0 1 z8 (rk_dv 1 (pu_sl be 5 * (nI (i + 1)).toInt64) (rk_scl 1 (pu_abl ab) (rk_it (rk_eB ab be) i u)))) (if_neg (fun q => h2 q.2))
            exact ih (i + 1) (by omega) (hinv.trans (if_pos hz)) _ _ _ (by rw [e9]; exact hP) (by rw [e9]; exact hD) hS (lv_sub hl [1, 2, 3, 4, 0] rfl)
          · refine lv_iconst (v := 1) hx hb d_K_raiseE_92 (by decide) ?_
            refine lv_goto (tgt := 97) hx hb d_K_raiseE_93 (by decide) ?_
            refine cs_callv (va_runV (As := [.ref (ad 4), .int 1]) (rest := []) ⟨hx, hb, hml, hown, ha⟩ (c_W_addOrSubtract l dC dI (ad 1) (ad 2) (ad 3) (ad 4) (ad 5) (ad 6) cL ((rk_dv 1 ((pu_sl be 5) * (((nI (i + 1)) : Int32).toInt64)) (rk_scl 1 (pu_abl ab) (rk_it (rk_eB ab be) i u))) 0) ((rk_dv 1 ((pu_sl be 5) * (((nI (i + 1)) : Int32).toInt64)) (rk_scl 1 (pu_abl ab) (rk_it (rk_eB ab be) i u))) 2) 1 _) (cwV 2 ha g_K_W_addOrSubtract rfl rfl rfl (by decide +kernel) ⟨Nat.le_trans (Nat.le_of_ble_eq_true rfl) hRf, Nat.le_trans (Nat.le_of_ble_eq_true rfl) hRl⟩) (ct_preV ct_G0ok trivial hK hP hD hS hA [1, 2, 4, 5] rfl (by decide) [0] rfl 1 0 rfl rfl rfl) rfl rfl hl.1 rfl (lv_room (Nat.le_of_ble_eq_true rfl)) d_K_raiseE_97 ⟨hRc, hRs⟩) hP hD hS hA [1, 2, 4, 5] rfl (by decide) (fun _ => rfl) (fun u7 H locs hw hP hD hS => ?_)
            obtain rfl : u7 = _ := hw.trans (ir_eq _).symm
            obtain ⟨hP, hD⟩ : va_P (dC, dI) cl9 (rk_w ad cL (rk_as 0 1 1 (rk_dv 1 ((pu_sl be 5) * (((nI (i + 1)) : Int32).toInt64)) (rk_scl 1 (pu_abl ab) (rk_it (rk_eB ab be) i u))))) H ∧ va_D A (rk_w ad cL (rk_as 0 1 1 (rk_dv 1 ((pu_sl be 5) * (((nI (i + 1)) : Int32).toInt64)) (rk_scl 1 (pu_abl ab) (rk_it (rk_eB ab be) i u))))) := ct_eqP (rkw2_0_1 ad cL (rk_dv 1 ((pu_sl be 5) * (((nI (i + 1)) : Int32).toInt64)) (rk_scl 1 (pu_abl ab) (rk_it (rk_eB ab be) i u))) _) hP hD
            refine lv_iinc (v := (nI (i + 1 + 1))) (lv' := [(9, .int (nI (i + 1 + 1))), (0, .ref (ad 0)), (1, .long ab), (5, .long (pu_abl ab)), (7, .long (pu_sl be 5))]) hx hb d_K_raiseE_100 hl (k := 4) rfl (by exact nI_1 (i + 1)) (by decide) rfl (fun ls hl => ?_)
            refine lv_goto (tgt := 30) hx hb d_K_raiseE_103 (by decide) ?_
            have e9 : rk_it (rk_eB ab be) (i + 1) u = rk_as 0 1 1 (rk_dv 1 ((pu_sl be 5) * (((nI (i + 1)) : Int32).toInt64)) (rk_scl 1 (pu_abl ab) (rk_it (rk_eB ab be) i u))) := congrArg (fun z8 => rk_as 0 1 z8 (rk_dv 1 (pu_sl be 5 * (nI (i + 1)).toInt64) (rk_scl 1 (pu_abl ab) (rk_it (rk_eB ab be) i u)))) (if_pos ⟨Int64.not_le.mp h1, h2⟩)
            exact ih (i + 1) (by omega) (hinv.trans (if_pos hz)) _ _ _ (by rw [e9]; exact hP) (by rw [e9]; exact hD) hS (lv_sub hl [1, 2, 3, 4, 0] rfl)
set_option maxHeartbeats 1000000 in
set_option maxRecDepth 100000 in
/-- its squarings -/
theorem lp_K_raiseE2 {p : Program} {l : Launch} {e : Env} {R : Room} {s : State} {m : MethodId} {args : Array Value} {below : List Frame} {meth : Method} {c : Code} {Q : State → Prop} {A : Nat → Prop} {cells slots : Nat} {dC : Nat → ClassId} {dI : Nat → Nat → Nat} {ad : Nat → Nat} {cL : ClassId} {u : rk_U} (hF : ct_F p s m meth c b_K_raiseE none 10 w_K_raiseE y_K_raiseE args) (hA : ∀ q, s.heap.size ≤ q → A q) (hK : va_K (dC, dI) cl9 [(cL, .long)] s) (hRf : 3 ≤ R.frames) (hRl : 77 ≤ R.locals) (hRc : cells ≤ R.cells) (hRs : slots ≤ R.slots) 
    (K : ∀ (H : Heap) (locs : List Loc) (ls : Array Slot), va_P (dC, dI) cl9 (rk_w ad cL (rk_it (fun _ => rk_mul 5 0 0) 5 u)) H → va_D A (rk_w ad cL (rk_it (fun _ => rk_mul 5 0 0) 5 u)) → va_S A s.heap H locs → lv_has ls 10 [(0, .ref (ad 0))] → W p l e R s m args below meth c H locs cells slots Q (F0 m 132 ls [])) :
    ∀ (n9 i : Nat), i + n9 = 5 → ∀ (H : Heap) (locs : List Loc) (ls : Array Slot), va_P (dC, dI) cl9 (rk_w ad cL (rk_it (fun _ => rk_mul 5 0 0) i u)) H → va_D A (rk_w ad cL (rk_it (fun _ => rk_mul 5 0 0) i u)) → va_S A s.heap H locs → lv_has ls 10 [(0, .ref (ad 0)), (9, .int (nI i))] → W p l e R s m args below meth c H locs cells slots Q (F0 m 109 ls []) := by
  obtain ⟨hx, hb, hr, hml, hts, hown, hlocks, hnm⟩ := id hF
  have hown : s.vm.findClass R_K = some m.cls := hown
  have ha : ∀ w ∈ al_K, w.before args s = true := fun w h => hts w (List.mem_cons_of_mem _ h)
  intro n9
  induction n9 with
  | zero =>
    intro i hi H locs ls hP hD hS hl
    obtain rfl : 5 = i := by omega
    refine lv_iload hx hb d_K_raiseE_109 (lv_at hl 1 rfl) ?_
    refine lv_iconst (v := 5) hx hb d_K_raiseE_111 (by decide) ?_
    refine lv_icmp_ge (tgt := 132) hx hb d_K_raiseE_112 (by decide) (fun hc => ?_) (fun hc => ?_)
    · exact K _ _ _ hP hD hS (lv_sub hl [0] rfl)
    · exact absurd (show nI 5 ≤ nI 5 from nI_le (by omega) (by omega)) hc
  | succ n9 ih =>
    intro i hi H locs ls hP hD hS hl
    have hlt : i < 5 := by omega
    refine lv_iload hx hb d_K_raiseE_109 (lv_at hl 1 rfl) ?_
    refine lv_iconst (v := 5) hx hb d_K_raiseE_111 (by decide) ?_
    refine lv_icmp_ge (tgt := 132) hx hb d_K_raiseE_112 (by decide) (fun hc => ?_) (fun hc => ?_)
    · exact absurd (show nI 5 ≤ nI i from hc) (nI_ge (by omega) (by omega))
    · refine lv_aload_n hx hb d_K_raiseE_115 rfl (lv_at hl 0 rfl) ?_
      refine va_get (D := (dC, dI)) (ci := 1) (v := .ref (ad 1)) (C := R_K) (T := F_K) (N := 5) hx hb ha ui_K hown hK hP 0 rfl rfl 0 (by decide) (ha _ wm_K_6) (fun _ h9 => h9) rfl d_K_raiseE_116 ?_
      refine lv_aload_n hx hb d_K_raiseE_119 rfl (lv_at hl 0 rfl) ?_
      refine va_get (D := (dC, dI)) (ci := 1) (v := .ref (ad 1)) (C := R_K) (T := F_K) (N := 5) hx hb ha ui_K hown hK hP 0 rfl rfl 0 (by decide) (ha _ wm_K_6) (fun _ h9 => h9) rfl d_K_raiseE_120 ?_
      refine cs_callv (va_runV (As := [.ref (ad 1)]) (rest := []) ⟨hx, hb, hml, hown, ha⟩ (c_W_multiplyS l dC dI (ad 1) (ad 2) (ad 3) cL ((rk_it (fun _ => rk_mul 5 0 0) i u) 0) ((rk_it (fun _ => rk_mul 5 0 0) i u) 1) _) (cwV 1 ha g_K_W_multiply rfl rfl rfl (by decide +kernel) ⟨Nat.le_trans (Nat.le_of_ble_eq_true rfl) hRf, Nat.le_trans (Nat.le_of_ble_eq_true rfl) hRl⟩) (ct_preV ct_G0ok trivial hK hP hD hS hA [1, 2, 3] rfl (by decide) [0] rfl 1 0 rfl rfl rfl) rfl rfl hl.1 rfl (lv_room (Nat.le_of_ble_eq_true rfl)) d_K_raiseE_123 ⟨hRc, hRs⟩) hP hD hS hA [1, 2, 3] rfl (by decide) (fun _ => rfl) (fun u7 H locs hw hP hD hS => ?_)
      obtain ⟨u8, u9⟩ := u7
      obtain rfl : u8 = _ := hw.1.trans (ir_eq _).symm
      obtain rfl : u9 = _ := hw.2.trans (ir_eq _).symm
      obtain ⟨hP, hD⟩ : va_P (dC, dI) cl9 (rk_w ad cL (rk_mul 5 0 0 (rk_it (fun _ => rk_mul 5 0 0) i u))) H ∧ va_D A (rk_w ad cL (rk_mul 5 0 0 (rk_it (fun _ => rk_mul 5 0 0) i u))) := ct_eqP (rkwm_0_0 ad cL (rk_it (fun _ => rk_mul 5 0 0) i u) _ _) hP hD
      refine lv_iinc (v := (nI (i + 1))) (lv' := [(9, .int (nI (i + 1))), (0, .ref (ad 0))]) hx hb d_K_raiseE_126 hl (k := 1) rfl (by exact nI_1 i) (by decide) rfl (fun ls hl => ?_)
      refine lv_goto (tgt := 109) hx hb d_K_raiseE_129 (by decide) ?_
      exact ih (i + 1) (by omega) _ _ _ hP hD hS (lv_sub hl [1, 0] rfl)
set_option maxHeartbeats 1000000 in
set_option maxRecDepth 100000 in
/-- value becomes e to the power of ab / be -/
theorem c_K_raiseE (l : Launch) (dC : Nat → ClassId) (dI : Nat → Nat → Nat) (ad : Nat → Nat) (cL : ClassId) (u : rk_U) (ab be : Int64) (sz : Nat) : ct_V l y_K_raiseE w_K_raiseE { frames := 3, cells := 0, slots := 0, locals := 77 } (dC, dI) cl9 [(cL, .long)] ct_G0 [.ref (ad 0), .long ab, .long be] (rk_w ad cL u) sz (S := rk_U) (fun u' : rk_U => u' = rk_raise ab be u) (fun _ : rk_U => [(cL, .long)]) (fun u' : rk_U => rk_w ad cL u') 0 0 := by
  refine ct_of (Qf := fun A => va_Qv (fun u' : rk_U => u' = rk_raise ab be u) (ct_B (S := rk_U) (dC, dI) cl9 (fun _ : rk_U => [(cL, .long)]) A (fun u' : rk_U => rk_w ad cL u')) A) (cc := b_K_raiseE) (maxL := 10) (ret := none) (by decide) rfl (Nat.le_of_ble_eq_true rfl) ?_
  intro p e s m below meth c A ls hF hA hP hK hD hG hS hl
  obtain ⟨hx, hb, hr, hml, hts, hown, hlocks, hnm⟩ := id hF
  have hown : s.vm.findClass R_K = some m.cls := hown
  have ha : ∀ w ∈ al_K, w.before [.ref (ad 0), .long ab, .long be].toArray s = true := fun w h => hts w (List.mem_cons_of_mem _ h)
  have hl : lv_has ls 10 [(0, .ref (ad 0)), (1, .long ab), (3, .long be)] := hl
  refine lv_lload_n hx hb d_K_raiseE_0 rfl (lv_at hl 1 rfl) ?_
  refine cs_calll (va_runS (As := [.long ab]) (rest := []) ⟨hx, hb, hml, hown, ha⟩ (c_absL l dC dI ab _) (va_cwS 1 ha g_K_Math_abs_JJ rfl rfl rfl (by decide +kernel) ⟨Nat.le_of_ble_eq_true rfl, Nat.le_of_ble_eq_true rfl⟩) (ct_pre ct_G0ok trivial hK hP hD hS hA [] rfl (by decide) [] rfl) rfl rfl hl.1 rfl (lv_room (Nat.le_of_ble_eq_true rfl)) d_K_raiseE_1 ⟨Nat.le_of_ble_eq_true rfl, Nat.le_of_ble_eq_true rfl⟩) hP hD hS hA [] rfl (by decide) (fun _ => rfl) (fun r9 u7 H locs hw hP hD hS => ?_)
  subst hw
  obtain ⟨hP, hD⟩ : va_P (dC, dI) cl9 (rk_w ad cL u) H ∧ va_D A (rk_w ad cL u) := ct_eqP (ct_sets_nil _ _) hP hD
  refine lv_lstore (lv' := [(5, .long (pu_abl ab)), (0, .ref (ad 0)), (1, .long ab), (3, .long be)]) hx hb d_K_raiseE_4 hl (by decide) rfl (fun ls hl => ?_)
  refine lv_lload_n hx hb d_K_raiseE_6 rfl (lv_at hl 3 rfl) ?_
  refine lv_iconst (v := 5) hx hb d_K_raiseE_7 (by decide) ?_
  refine lv_lshl (v := (pu_sl be 5)) hx hb d_K_raiseE_8 rfl ?_
  refine lv_lstore (lv' := [(7, .long (pu_sl be 5)), (5, .long (pu_abl ab)), (0, .ref (ad 0)), (1, .long ab), (3, .long be)]) hx hb d_K_raiseE_9 hl (by decide) rfl (fun ls hl => ?_)
  refine lv_aload_n hx hb d_K_raiseE_11 rfl (lv_at hl 2 rfl) ?_
  refine va_get (D := (dC, dI)) (ci := 1) (v := .ref (ad 1)) (C := R_K) (T := F_K) (N := 5) hx hb ha ui_K hown hK hP 0 rfl rfl 0 (by decide) (ha _ wm_K_6) (fun _ h9 => h9) rfl d_K_raiseE_12 ?_
  refine lv_lconst (v := 1) hx hb d_K_raiseE_15 (by decide) ?_
  refine cs_callv (va_runV (As := [.long 1]) (rest := []) ⟨hx, hb, hml, hown, ha⟩ (c_W_load l dC dI (ad 1) (ad 2) (ad 3) cL (u 0) 1 _) (cwV 1 ha g_K_W_load rfl rfl rfl (by decide +kernel) ⟨Nat.le_of_ble_eq_true rfl, Nat.le_of_ble_eq_true rfl⟩) (ct_preV ct_G0ok trivial hK hP hD hS hA [1, 2] rfl (by decide) [0] rfl 1 0 rfl rfl rfl) rfl rfl hl.1 rfl (lv_room (Nat.le_of_ble_eq_true rfl)) d_K_raiseE_16 ⟨Nat.le_of_ble_eq_true rfl, Nat.le_of_ble_eq_true rfl⟩) hP hD hS hA [1, 2] rfl (by decide) (fun _ => rfl) (fun u7 H locs hw hP hD hS => ?_)
  obtain rfl : u7 = _ := hw.trans (ir_eq _).symm
  obtain ⟨hP, hD⟩ : va_P (dC, dI) cl9 (rk_w ad cL (rk_load 0 1 u)) H ∧ va_D A (rk_w ad cL (rk_load 0 1 u)) := ct_eqP (rkw1_0 ad cL u _) hP hD
  refine lv_aload_n hx hb d_K_raiseE_19 rfl (lv_at hl 2 rfl) ?_
  refine va_get (D := (dC, dI)) (ci := 1) (v := .ref (ad 4)) (C := R_K) (T := F_K) (N := 5) hx hb ha ui_K hown hK hP 0 rfl rfl 1 (by decide) (ha _ wm_K_7) (fun _ h9 => h9) rfl d_K_raiseE_20 ?_
  refine lv_lconst (v := 1) hx hb d_K_raiseE_23 (by decide) ?_
  refine cs_callv (va_runV (As := [.long 1]) (rest := []) ⟨hx, hb, hml, hown, ha⟩ (c_W_load l dC dI (ad 4) (ad 5) (ad 6) cL ((rk_load 0 1 u) 2) 1 _) (cwV 1 ha g_K_W_load rfl rfl rfl (by decide +kernel) ⟨Nat.le_of_ble_eq_true rfl, Nat.le_of_ble_eq_true rfl⟩) (ct_preV ct_G0ok trivial hK hP hD hS hA [4, 5] rfl (by decide) [0] rfl 4 0 rfl rfl rfl) rfl rfl hl.1 rfl (lv_room (Nat.le_of_ble_eq_true rfl)) d_K_raiseE_24 ⟨Nat.le_of_ble_eq_true rfl, Nat.le_of_ble_eq_true rfl⟩) hP hD hS hA [4, 5] rfl (by decide) (fun _ => rfl) (fun u7 H locs hw hP hD hS => ?_)
  obtain rfl : u7 = _ := hw.trans (ir_eq _).symm
  obtain ⟨hP, hD⟩ : va_P (dC, dI) cl9 (rk_w ad cL (rk_load 1 1 (rk_load 0 1 u))) H ∧ va_D A (rk_w ad cL (rk_load 1 1 (rk_load 0 1 u))) := ct_eqP (rkw1_1 ad cL (rk_load 0 1 u) _) hP hD
  refine lv_iconst (v := 1) hx hb d_K_raiseE_27 (by decide) ?_
  refine lv_istore (lv' := [(9, .int 1), (7, .long (pu_sl be 5)), (5, .long (pu_abl ab)), (0, .ref (ad 0)), (1, .long ab), (3, .long be)]) hx hb d_K_raiseE_28 hl (by decide) rfl (fun ls hl => ?_)
  refine lp_K_raiseE (ad := ad) (cL := cL) (u := rk_load 1 1 (rk_load 0 1 u)) (ab := ab) (be := be) hF hA hK (Nat.le_of_ble_eq_true rfl) (Nat.le_of_ble_eq_true rfl) (Nat.le_of_ble_eq_true rfl) (Nat.le_of_ble_eq_true rfl) (fun H locs ls hP hD hS hl => ?_) 399 0 (by omega) rfl _ _ _ hP hD hS (lv_sub hl [3, 4, 2, 1, 0] rfl)
  have hP : va_P (dC, dI) cl9 (rk_w ad cL (rk_eE ab be (rk_load 1 1 (rk_load 0 1 u)))) H := hP
  have hD : va_D A (rk_w ad cL (rk_eE ab be (rk_load 1 1 (rk_load 0 1 u)))) := hD
  refine lv_iconst (v := 0) hx hb d_K_raiseE_106 (by decide) ?_
  refine lv_istore (lv' := [(9, .int 0), (0, .ref (ad 0))]) hx hb d_K_raiseE_107 hl (by decide) rfl (fun ls hl => ?_)
  refine lp_K_raiseE2 (ad := ad) (cL := cL) (u := rk_eE ab be (rk_load 1 1 (rk_load 0 1 u))) hF hA hK (Nat.le_of_ble_eq_true rfl) (Nat.le_of_ble_eq_true rfl) (Nat.le_of_ble_eq_true rfl) (Nat.le_of_ble_eq_true rfl) (fun H locs ls hP hD hS hl => ?_) 5 0 (by omega) _ _ _ hP hD hS (lv_sub hl [1, 0] rfl)
  have hP : va_P (dC, dI) cl9 (rk_w ad cL (rk_raise ab be u)) H := hP
  have hD : va_D A (rk_w ad cL (rk_raise ab be u)) := hD
  exact ct_vret hF d_K_raiseE_132 (rk_raise ab be u) rfl hP hD hK hS
