set_option maxHeartbeats 400000 in
set_option maxRecDepth 100000 in
/-- the value times k, rounded down -/
theorem c_K_floorTimes (l : Launch) (dC : Nat → ClassId) (dI : Nat → Nat → Nat) (ad : Nat → Nat) (cL : ClassId) (u : rk_U) (k : Int64) (sz : Nat) : ct_L l y_K_floorTimes w_K_floorTimes { frames := 3, cells := 0, slots := 0, locals := 77 } (dC, dI) cl9 [(cL, .long)] ct_G0 [.ref (ad 0), .long k] (rk_w ad cL u) sz (S := rk_U) (fun r (u' : rk_U) => u' = rk_scl 0 k u ∧ r = wr_wh (rk_scl 0 k u 0)) (fun _ : rk_U => [(cL, .long)]) (fun u' : rk_U => rk_w ad cL u') 0 0 := by
  refine ct_of (Qf := fun A => va_Ql (fun r (u' : rk_U) => u' = rk_scl 0 k u ∧ r = wr_wh (rk_scl 0 k u 0)) (ct_B (S := rk_U) (dC, dI) cl9 (fun _ : rk_U => [(cL, .long)]) A (fun u' : rk_U => rk_w ad cL u')) A) (cc := b_K_floorTimes) (maxL := 3) (ret := ((some .long))) (by decide) rfl (Nat.le_of_ble_eq_true rfl) ?_
  intro p e s m below meth c A ls hF hA hP hK hD hG hS hl
  obtain ⟨hx, hb, hr, hml, hts, hown, hlocks, hnm⟩ := id hF
  have hown : s.vm.findClass R_K = some m.cls := hown
  have ha : ∀ w ∈ al_K, w.before [.ref (ad 0), .long k].toArray s = true := fun w h => hts w (List.mem_cons_of_mem _ h)
  have hl : lv_has ls 3 [(0, .ref (ad 0)), (1, .long k)] := hl
  refine lv_aload_n hx hb d_K_floorTimes_0 rfl (lv_at hl 0 rfl) ?_
  refine va_get (D := (dC, dI)) (ci := 1) (v := .ref (ad 1)) (C := R_K) (T := F_K) (N := 5) hx hb ha ui_K hown hK hP 0 rfl rfl 0 (by decide) (ha _ wm_K_6) (fun _ h9 => h9) rfl d_K_floorTimes_1 ?_
  refine lv_lload_n hx hb d_K_floorTimes_4 rfl (lv_at hl 1 rfl) ?_
  refine cs_callv (va_runV (As := [.long k]) (rest := []) ⟨hx, hb, hml, hown, ha⟩ (c_W_scale l dC dI (ad 1) (ad 2) (ad 3) cL (u 0) k _) (cwV 1 ha g_K_W_scale rfl rfl rfl (by decide +kernel) ⟨Nat.le_of_ble_eq_true rfl, Nat.le_of_ble_eq_true rfl⟩) (ct_preV ct_G0ok trivial hK hP hD hS hA [1, 2] rfl (by decide) [0] rfl 1 0 rfl rfl rfl) rfl rfl hl.1 rfl (lv_room (Nat.le_of_ble_eq_true rfl)) d_K_floorTimes_5 ⟨Nat.le_of_ble_eq_true rfl, Nat.le_of_ble_eq_true rfl⟩) hP hD hS hA [1, 2] rfl (by decide) (fun _ => rfl) (fun u7 H locs hw hP hD hS => ?_)
  obtain rfl : u7 = _ := hw.trans (ir_eq _).symm
  have hP : va_P (dC, dI) cl9 (rk_w ad cL (rk_scl 0 k u)) H := hP
  have hD : va_D A (rk_w ad cL (rk_scl 0 k u)) := hD
  refine lv_aload_n hx hb d_K_floorTimes_8 rfl (lv_at hl 0 rfl) ?_
  refine va_get (D := (dC, dI)) (ci := 1) (v := .ref (ad 1)) (C := R_K) (T := F_K) (N := 5) hx hb ha ui_K hown hK hP 0 rfl rfl 0 (by decide) (ha _ wm_K_6) (fun _ h9 => h9) rfl d_K_floorTimes_9 ?_
  refine cs_calll (va_runV (As := []) (rest := []) ⟨hx, hb, hml, hown, ha⟩ (c_W_whole l dC dI (ad 1) (ad 2) (ad 3) cL ((rk_scl 0 k u) 0) _) (cwV 0 ha g_K_W_whole rfl rfl rfl (by decide +kernel) ⟨Nat.le_of_ble_eq_true rfl, Nat.le_of_ble_eq_true rfl⟩) (ct_preV ct_G0ok trivial hK hP hD hS hA [1, 2] rfl (by decide) [0] rfl 1 0 rfl rfl rfl) rfl rfl hl.1 rfl (lv_room (Nat.le_of_ble_eq_true rfl)) d_K_floorTimes_12 ⟨Nat.le_of_ble_eq_true rfl, Nat.le_of_ble_eq_true rfl⟩) hP hD hS hA [1, 2] rfl (by decide) (fun _ => rfl) (fun r9 u7 H locs hw hP hD hS => ?_)
  obtain rfl : r9 = wr_wh ((rk_scl 0 k u) 0) := hw.trans (ir_eq _).symm
  have hP : va_P (dC, dI) cl9 (rk_w ad cL (rk_scl 0 k u)) H := hP
  have hD : va_D A (rk_w ad cL (rk_scl 0 k u)) := hD
  exact ct_lret hF d_K_floorTimes_15 (rk_scl 0 k u) ⟨rfl, rfl⟩ hP hD hK hS
set_option maxHeartbeats 400000 in
set_option maxRecDepth 100000 in
/-- kept becomes value -/
theorem c_K_keepLog (l : Launch) (dC : Nat → ClassId) (dI : Nat → Nat → Nat) (ad : Nat → Nat) (cL : ClassId) (u : rk_U) (sz : Nat) : ct_V l y_K_keepLog w_K_keepLog { frames := 3, cells := 0, slots := 0, locals := 77 } (dC, dI) cl9 [(cL, .long)] ct_G0 [.ref (ad 0)] (rk_w ad cL u) sz (S := rk_U) (fun u' : rk_U => u' = rk_cpy 4 0 u) (fun _ : rk_U => [(cL, .long)]) (fun u' : rk_U => rk_w ad cL u') 0 0 := by
  refine ct_of (Qf := fun A => va_Qv (fun u' : rk_U => u' = rk_cpy 4 0 u) (ct_B (S := rk_U) (dC, dI) cl9 (fun _ : rk_U => [(cL, .long)]) A (fun u' : rk_U => rk_w ad cL u')) A) (cc := b_K_keepLog) (maxL := 1) (ret := none) (by decide) rfl (Nat.le_of_ble_eq_true rfl) ?_
  intro p e s m below meth c A ls hF hA hP hK hD hG hS hl
  obtain ⟨hx, hb, hr, hml, hts, hown, hlocks, hnm⟩ := id hF
  have hown : s.vm.findClass R_K = some m.cls := hown
  have ha : ∀ w ∈ al_K, w.before [.ref (ad 0)].toArray s = true := fun w h => hts w (List.mem_cons_of_mem _ h)
  have hl : lv_has ls 1 [(0, .ref (ad 0))] := hl
  refine lv_aload_n hx hb d_K_keepLog_0 rfl (lv_at hl 0 rfl) ?_
  refine va_get (D := (dC, dI)) (ci := 1) (v := .ref (ad 13)) (C := R_K) (T := F_K) (N := 5) hx hb ha ui_K hown hK hP 0 rfl rfl 4 (by decide) (ha _ wm_K_10) (fun _ h9 => h9) rfl d_K_keepLog_1 ?_
  refine lv_aload_n hx hb d_K_keepLog_4 rfl (lv_at hl 0 rfl) ?_
  refine va_get (D := (dC, dI)) (ci := 1) (v := .ref (ad 1)) (C := R_K) (T := F_K) (N := 5) hx hb ha ui_K hown hK hP 0 rfl rfl 0 (by decide) (ha _ wm_K_6) (fun _ h9 => h9) rfl d_K_keepLog_5 ?_
  refine cs_callv (va_runV (As := [.ref (ad 1)]) (rest := []) ⟨hx, hb, hml, hown, ha⟩ (c_W_loadWide l dC dI (ad 13) (ad 14) (ad 15) (ad 1) (ad 2) (ad 3) cL (u 8) (u 0) _) (cwV 1 ha g_K_W_loadWide rfl rfl rfl (by decide +kernel) ⟨Nat.le_of_ble_eq_true rfl, Nat.le_of_ble_eq_true rfl⟩) (ct_preV ct_G0ok trivial hK hP hD hS hA [13, 14, 1, 2] rfl (by decide) [0] rfl 13 0 rfl rfl rfl) rfl rfl hl.1 rfl (lv_room (Nat.le_of_ble_eq_true rfl)) d_K_keepLog_8 ⟨Nat.le_of_ble_eq_true rfl, Nat.le_of_ble_eq_true rfl⟩) hP hD hS hA [13, 14, 1, 2] rfl (by decide) (fun _ => rfl) (fun u7 H locs hw hP hD hS => ?_)
  obtain rfl : u7 = _ := hw.trans (ir_eq _).symm
  have hP : va_P (dC, dI) cl9 (rk_w ad cL (rk_cpy 4 0 u)) H := hP
  have hD : va_D A (rk_w ad cL (rk_cpy 4 0 u)) := hD
  exact ct_vret hF d_K_keepLog_11 (rk_cpy 4 0 u) rfl hP hD hK hS
