set_option maxHeartbeats 1000000 in
set_option maxRecDepth 100000 in
/-- the sine of x millionths, in billionths -/
theorem c_F_sine (l : Launch) (hst : l.stackTraces = false) (dC : Nat → ClassId) (dI : Nat → Nat → Nat) (fx : Nat) (sd : Int64) (tb tc : Nat) (ad : Nat → Nat) (cL : ClassId) (u : rk_U) (s1 s2 s3 s4 tl th ta : Nat) (x : Int32) (sz : Nat) : cx_L l y_F_sine w_F_sine { frames := 7, cells := 1, slots := 6, locals := 160 } (dC, dI) cl9 [(cL, .long)] (fg_G s1 s2 s3 s4 tl th ta) [.ref fx, .int x] (fw_w fx sd tb tc ad cL u) sz (S := rk_U) (fun r (u' : rk_U) => (-100000000 ≤ x.toInt64 ∧ x.toInt64 ≤ 100000000) ∧ r = fn_r 1000000000 (rk_swing (pu_abl x.toInt64) (if 0 ≤ x then 0 else 2) u)) (fun _ : rk_U => [(cL, .long)]) (fun u' : rk_U => fw_w fx sd tb tc ad cL u') (fun E => E = "java/lang/IllegalArgumentException" ∧ (x.toInt64 < -100000000 ∨ 100000000 < x.toInt64)) 1 6 := by
  refine cx_of (Qf := fun A => va_Ql (fun r (u' : rk_U) => (-100000000 ≤ x.toInt64 ∧ x.toInt64 ≤ 100000000) ∧ r = fn_r 1000000000 (rk_swing (pu_abl x.toInt64) (if 0 ≤ x then 0 else 2) u)) (ct_B (S := rk_U) (dC, dI) cl9 (fun _ : rk_U => [(cL, .long)]) A (fun u' : rk_U => fw_w fx sd tb tc ad cL u')) A) (Xf := cx_XC (dC, dI) cl9 [(cL, .long)] (fw_w fx sd tb tc ad cL u) (fun E => E = "java/lang/IllegalArgumentException" ∧ (x.toInt64 < -100000000 ∨ 100000000 < x.toInt64))) (cc := b_F_sine) (maxL := 2) (ret := ((some .long))) (by decide) rfl (Nat.le_of_ble_eq_true rfl) ?_
  intro p e s m below meth c A ls hF hno hA hP hK hD hG hS hl
  obtain ⟨hx, hb, hr, hml, hts, hown, hlocks, hnm⟩ := id hF
  have hown : s.vm.findClass R_F = some m.cls := hown
  have ha : ∀ w ∈ al_F, w.before [.ref fx, .int x].toArray s = true := fun w h => hts w (List.mem_cons_of_mem _ h)
  have hl : lv_has ls 2 [(0, .ref fx), (1, .int x)] := hl
  refine lv_iload_n hx hb d_F_sine_0 rfl (lv_at hl 1 rfl) ?_
  refine lv_i2l hx hb d_F_sine_1 rfl ?_
  refine lv_ldc2 (v := (-100000000)) hx hb hown (ha _ wm_F_45) d_F_sine_2 ?_
  refine lv_ldc2 (v := 100000000) hx hb hown (ha _ wm_F_46) d_F_sine_5 ?_
  refine cx_callv (vx_runS (As := [.long ((x : Int32).toInt64), .long (-100000000), .long 100000000]) (rest := []) ⟨hx, hb, hml, hown, ha⟩ (c_F_demandWithin l hst dC dI ((x : Int32).toInt64) (-100000000) 100000000 s1 s2 s3 s4 _) (va_cwS 3 ha g_F_F_demandWithin rfl rfl rfl (by decide +kernel) ⟨Nat.le_of_ble_eq_true rfl, Nat.le_of_ble_eq_true rfl⟩) (ct_pre (xg_Gok s1 s2 s3 s4) hG.1 hK hP hD hS hA [] rfl (by decide) [] rfl) rfl rfl hl.1 rfl (lv_room (Nat.le_of_ble_eq_true rfl)) d_F_sine_8 ⟨Nat.le_of_ble_eq_true rfl, Nat.le_of_ble_eq_true rfl⟩) hP hD hS hA [] rfl (by decide) (fun _ => rfl) (fun E ce q9 H locs hE hP hS hcell hv hcl => cx_out hno hlocks hE hP hK hD hS hcell hv hcl (Nat.le_of_ble_eq_true rfl) (Nat.le_of_ble_eq_true rfl)) (fun u7 H locs hq hP hD hS => ?_)
  obtain ⟨hP, hD⟩ : va_P (dC, dI) cl9 (fw_w fx sd tb tc ad cL u) H ∧ va_D A (fw_w fx sd tb tc ad cL u) := ct_eqP (ct_sets_nil _ _) hP hD
  refine lv_aload_n hx hb d_F_sine_11 rfl (lv_at hl 0 rfl) ?_
  refine va_get (D := (dC, dI)) (ci := 3) (v := .ref (ad 0)) (C := R_F) (T := F_F) (N := 4) hx hb ha ui_F hown hK hP 0 rfl rfl 3 (by decide) (ha _ wm_F_10) (fun _ h9 => h9) rfl d_F_sine_12 ?_
  refine lv_iload_n hx hb d_F_sine_15 rfl (lv_at hl 1 rfl) ?_
  refine lv_i2l hx hb d_F_sine_16 rfl ?_
  refine cs_calll (va_runS (As := [.long ((x : Int32).toInt64)]) (rest := [.ref (ad 0)]) ⟨hx, hb, hml, hown, ha⟩ (c_absL l dC dI (x.toInt64) _) (va_cwS 1 ha g_F_Math_abs_JJ rfl rfl rfl (by decide +kernel) ⟨Nat.le_of_ble_eq_true rfl, Nat.le_of_ble_eq_true rfl⟩) (ct_pre ct_G0ok trivial hK hP hD hS hA [] rfl (by decide) [] rfl) rfl rfl hl.1 rfl (lv_room (Nat.le_of_ble_eq_true rfl)) d_F_sine_17 ⟨Nat.le_of_ble_eq_true rfl, Nat.le_of_ble_eq_true rfl⟩) hP hD hS hA [] rfl (by decide) (fun _ => rfl) (fun r9 u7 H locs hw hP hD hS => ?_)
  subst hw
  obtain ⟨hP, hD⟩ : va_P (dC, dI) cl9 (fw_w fx sd tb tc ad cL u) H ∧ va_D A (fw_w fx sd tb tc ad cL u) := ct_eqP (ct_sets_nil _ _) hP hD
  refine lv_iload_n hx hb d_F_sine_20 rfl (lv_at hl 1 rfl) ?_
  refine lv_if_ge (tgt := 28) hx hb d_F_sine_21 (by decide) (fun h1 => ?_) (fun h1 => ?_)
  · refine lv_iconst (v := 0) hx hb d_F_sine_28 (by decide) ?_
    refine cs_callv (va_runV (As := [.long (pu_abl x.toInt64), .int 0]) (rest := []) ⟨hx, hb, hml, hown, ha⟩ (c_K_swing l dC dI ad cL u (pu_abl x.toInt64) 0 tl th ta _) (cwV 2 ha g_F_K_swing rfl rfl rfl (by decide +kernel) ⟨Nat.le_of_ble_eq_true rfl, Nat.le_of_ble_eq_true rfl⟩) (ct_preV (kg_Gok tl th ta) hG.2 hK hP hD hS hA [1, 2, 3, 4, 5, 6, 7, 8, 9, 10, 11, 12, 13, 14, 15, 16] rfl (by decide) [0] rfl 1 1 rfl rfl rfl) rfl rfl hl.1 rfl (lv_room (Nat.le_of_ble_eq_true rfl)) d_F_sine_29 ⟨Nat.le_of_ble_eq_true rfl, Nat.le_of_ble_eq_true rfl⟩) hP hD hS hA [1, 2, 3, 4, 5, 6, 7, 8, 9, 10, 11, 12, 13, 14, 15, 16] rfl (by decide) (fun _ => rfl) (fun u_1 H locs hu_1 hP hD hS => ?_)
    obtain ⟨hP, hD⟩ : va_P (dC, dI) cl9 (fw_w fx sd tb tc ad cL u_1) H ∧ va_D A (fw_w fx sd tb tc ad cL u_1) := ct_eqP (fkwA fx sd tb tc ad cL u _) hP hD
    refine lv_aload_n hx hb d_F_sine_32 rfl (lv_at hl 0 rfl) ?_
    refine va_get (D := (dC, dI)) (ci := 3) (v := .ref (ad 0)) (C := R_F) (T := F_F) (N := 4) hx hb ha ui_F hown hK hP 0 rfl rfl 3 (by decide) (ha _ wm_F_10) (fun _ h9 => h9) rfl d_F_sine_33 ?_
    refine lv_ldc2 (v := 1000000000) hx hb hown (ha _ wm_F_22) d_F_sine_36 ?_
    refine cs_calll (va_runV (As := [.long 1000000000]) (rest := []) ⟨hx, hb, hml, hown, ha⟩ (c_K_floorTimes l dC dI ad cL u_1 1000000000 _) (cwV 1 ha g_F_K_floorTimes rfl rfl rfl (by decide +kernel) ⟨Nat.le_of_ble_eq_true rfl, Nat.le_of_ble_eq_true rfl⟩) (ct_preV ct_G0ok trivial hK hP hD hS hA [1, 2, 3, 4, 5, 6, 7, 8, 9, 10, 11, 12, 13, 14, 15, 16] rfl (by decide) [0] rfl 1 1 rfl rfl rfl) rfl rfl hl.1 rfl (lv_room (Nat.le_of_ble_eq_true rfl)) d_F_sine_39 ⟨Nat.le_of_ble_eq_true rfl, Nat.le_of_ble_eq_true rfl⟩) hP hD hS hA [1, 2, 3, 4, 5, 6, 7, 8, 9, 10, 11, 12, 13, 14, 15, 16] rfl (by decide) (fun _ => rfl) (fun r_4 u_3 H locs hu_3 hP hD hS => ?_)
    obtain ⟨hu_3, hr_4⟩ := hu_3
    obtain ⟨hP, hD⟩ : va_P (dC, dI) cl9 (fw_w fx sd tb tc ad cL u_3) H ∧ va_D A (fw_w fx sd tb tc ad cL u_3) := ct_eqP (fkwA fx sd tb tc ad cL u_1 _) hP hD
    refine W.widen (k := 1) (n := 6) (Nat.le_of_ble_eq_true rfl) (Nat.le_of_ble_eq_true rfl) ?_
    exact vx_ret (ct_lret hF d_F_sine_42 u_3 (by subst hr_4; subst hu_3; subst hu_1; exact ⟨hq, by rw [if_pos h1]; rfl⟩) hP hD hK hS)
  · refine lv_iconst (v := 2) hx hb d_F_sine_24 (by decide) ?_
    refine lv_goto (tgt := 29) hx hb d_F_sine_25 (by decide) ?_
    refine cs_callv (va_runV (As := [.long (pu_abl x.toInt64), .int 2]) (rest := []) ⟨hx, hb, hml, hown, ha⟩ (c_K_swing l dC dI ad cL u (pu_abl x.toInt64) 2 tl th ta _) (cwV 2 ha g_F_K_swing rfl rfl rfl (by decide +kernel) ⟨Nat.le_of_ble_eq_true rfl, Nat.le_of_ble_eq_true rfl⟩) (ct_preV (kg_Gok tl th ta) hG.2 hK hP hD hS hA [1, 2, 3, 4, 5, 6, 7, 8, 9, 10, 11, 12, 13, 14, 15, 16] rfl (by decide) [0] rfl 1 1 rfl rfl rfl) rfl rfl hl.1 rfl (lv_room (Nat.le_of_ble_eq_true rfl)) d_F_sine_29 ⟨Nat.le_of_ble_eq_true rfl, Nat.le_of_ble_eq_true rfl⟩) hP hD hS hA [1, 2, 3, 4, 5, 6, 7, 8, 9, 10, 11, 12, 13, 14, 15, 16] rfl (by decide) (fun _ => rfl) (fun u_5 H locs hu_5 hP hD hS => ?_)
    obtain ⟨hP, hD⟩ : va_P (dC, dI) cl9 (fw_w fx sd tb tc ad cL u_5) H ∧ va_D A (fw_w fx sd tb tc ad cL u_5) := ct_eqP (fkwA fx sd tb tc ad cL u _) hP hD
    refine lv_aload_n hx hb d_F_sine_32 rfl (lv_at hl 0 rfl) ?_
    refine va_get (D := (dC, dI)) (ci := 3) (v := .ref (ad 0)) (C := R_F) (T := F_F) (N := 4) hx hb ha ui_F hown hK hP 0 rfl rfl 3 (by decide) (ha _ wm_F_10) (fun _ h9 => h9) rfl d_F_sine_33 ?_
    refine lv_ldc2 (v := 1000000000) hx hb hown (ha _ wm_F_22) d_F_sine_36 ?_
    refine cs_calll (va_runV (As := [.long 1000000000]) (rest := []) ⟨hx, hb, hml, hown, ha⟩ (c_K_floorTimes l dC dI ad cL u_5 1000000000 _) (cwV 1 ha g_F_K_floorTimes rfl rfl rfl (by decide +kernel) ⟨Nat.le_of_ble_eq_true rfl, Nat.le_of_ble_eq_true rfl⟩) (ct_preV ct_G0ok trivial hK hP hD hS hA [1, 2, 3, 4, 5, 6, 7, 8, 9, 10, 11, 12, 13, 14, 15, 16] rfl (by decide) [0] rfl 1 1 rfl rfl rfl) rfl rfl hl.1 rfl (lv_room (Nat.le_of_ble_eq_true rfl)) d_F_sine_39 ⟨Nat.le_of_ble_eq_true rfl, Nat.le_of_ble_eq_true rfl⟩) hP hD hS hA [1, 2, 3, 4, 5, 6, 7, 8, 9, 10, 11, 12, 13, 14, 15, 16] rfl (by decide) (fun _ => rfl) (fun r_8 u_7 H locs hu_7 hP hD hS => ?_)
    obtain ⟨hu_7, hr_8⟩ := hu_7
    obtain ⟨hP, hD⟩ : va_P (dC, dI) cl9 (fw_w fx sd tb tc ad cL u_7) H ∧ va_D A (fw_w fx sd tb tc ad cL u_7) := ct_eqP (fkwA fx sd tb tc ad cL u_5 _) hP hD
    refine W.widen (k := 1) (n := 6) (Nat.le_of_ble_eq_true rfl) (Nat.le_of_ble_eq_true rfl) ?_
    exact vx_ret (ct_lret hF d_F_sine_42 u_7 (by subst hr_8; subst hu_7; subst hu_5; exact ⟨hq, by rw [if_neg h1]; rfl⟩) hP hD hK hS)
set_option maxHeartbeats 1000000 in
set_option maxRecDepth 100000 in
/-- the cosine of x millionths, in billionths -/
theorem c_F_cosine (l : Launch) (hst : l.stackTraces = false) (dC : Nat → ClassId) (dI : Nat → Nat → Nat) (fx : Nat) (sd : Int64) (tb tc : Nat) (ad : Nat → Nat) (cL : ClassId) (u : rk_U) (s1 s2 s3 s4 tl th ta : Nat) (x : Int32) (sz : Nat) : cx_L l y_F_cosine w_F_cosine { frames := 7, cells := 1, slots := 6, locals := 160 } (dC, dI) cl9 [(cL, .long)] (fg_G s1 s2 s3 s4 tl th ta) [.ref fx, .int x] (fw_w fx sd tb tc ad cL u) sz (S := rk_U) (fun r (u' : rk_U) => (-100000000 ≤ x.toInt64 ∧ x.toInt64 ≤ 100000000) ∧ r = fn_r 1000000000 (rk_swing (pu_abl x.toInt64) 1 u)) (fun _ : rk_U => [(cL, .long)]) (fun u' : rk_U => fw_w fx sd tb tc ad cL u') (fun E => E = "java/lang/IllegalArgumentException" ∧ (x.toInt64 < -100000000 ∨ 100000000 < x.toInt64)) 1 6 := by
  refine cx_of (Qf := fun A => va_Ql (fun r (u' : rk_U) => (-100000000 ≤ x.toInt64 ∧ x.toInt64 ≤ 100000000) ∧ r = fn_r 1000000000 (rk_swing (pu_abl x.toInt64) 1 u)) (ct_B (S := rk_U) (dC, dI) cl9 (fun _ : rk_U => [(cL, .long)]) A (fun u' : rk_U => fw_w fx sd tb tc ad cL u')) A) (Xf := cx_XC (dC, dI) cl9 [(cL, .long)] (fw_w fx sd tb tc ad cL u) (fun E => E = "java/lang/IllegalArgumentException" ∧ (x.toInt64 < -100000000 ∨ 100000000 < x.toInt64))) (cc := b_F_cosine) (maxL := 2) (ret := ((some .long))) (by decide) rfl (Nat.le_of_ble_eq_true rfl) ?_
  intro p e s m below meth c A ls hF hno hA hP hK hD hG hS hl
  obtain ⟨hx, hb, hr, hml, hts, hown, hlocks, hnm⟩ := id hF
  have hown : s.vm.findClass R_F = some m.cls := hown
  have ha : ∀ w ∈ al_F, w.before [.ref fx, .int x].toArray s = true := fun w h => hts w (List.mem_cons_of_mem _ h)
  have hl : lv_has ls 2 [(0, .ref fx), (1, .int x)] := hl
  refine lv_iload_n hx hb d_F_cosine_0 rfl (lv_at hl 1 rfl) ?_
  refine lv_i2l hx hb d_F_cosine_1 rfl ?_
  refine lv_ldc2 (v := (-100000000)) hx hb hown (ha _ wm_F_45) d_F_cosine_2 ?_
  refine lv_ldc2 (v := 100000000) hx hb hown (ha _ wm_F_46) d_F_cosine_5 ?_
  refine cx_callv (vx_runS (As := [.long ((x : Int32).toInt64), .long (-100000000), .long 100000000]) (rest := []) ⟨hx, hb, hml, hown, ha⟩ (c_F_demandWithin l hst dC dI ((x : Int32).toInt64) (-100000000) 100000000 s1 s2 s3 s4 _) (va_cwS 3 ha g_F_F_demandWithin rfl rfl rfl (by decide +kernel) ⟨Nat.le_of_ble_eq_true rfl, Nat.le_of_ble_eq_true rfl⟩) (ct_pre (xg_Gok s1 s2 s3 s4) hG.1 hK hP hD hS hA [] rfl (by decide) [] rfl) rfl rfl hl.1 rfl (lv_room (Nat.le_of_ble_eq_true rfl)) d_F_cosine_8 ⟨Nat.le_of_ble_eq_true rfl, Nat.le_of_ble_eq_true rfl⟩) hP hD hS hA [] rfl (by decide) (fun _ => rfl) (fun E ce q9 H locs hE hP hS hcell hv hcl => cx_out hno hlocks hE hP hK hD hS hcell hv hcl (Nat.le_of_ble_eq_true rfl) (Nat.le_of_ble_eq_true rfl)) (fun u7 H locs hq hP hD hS => ?_)
  obtain ⟨hP, hD⟩ : va_P (dC, dI) cl9 (fw_w fx sd tb tc ad cL u) H ∧ va_D A (fw_w fx sd tb tc ad cL u) := ct_eqP (ct_sets_nil _ _) hP hD
  refine lv_aload_n hx hb d_F_cosine_11 rfl (lv_at hl 0 rfl) ?_
  refine va_get (D := (dC, dI)) (ci := 3) (v := .ref (ad 0)) (C := R_F) (T := F_F) (N := 4) hx hb ha ui_F hown hK hP 0 rfl rfl 3 (by decide) (ha _ wm_F_10) (fun _ h9 => h9) rfl d_F_cosine_12 ?_
  refine lv_iload_n hx hb d_F_cosine_15 rfl (lv_at hl 1 rfl) ?_
  refine lv_i2l hx hb d_F_cosine_16 rfl ?_
  refine cs_calll (va_runS (As := [.long ((x : Int32).toInt64)]) (rest := [.ref (ad 0)]) ⟨hx, hb, hml, hown, ha⟩ (c_absL l dC dI (x.toInt64) _) (va_cwS 1 ha g_F_Math_abs_JJ rfl rfl rfl (by decide +kernel) ⟨Nat.le_of_ble_eq_true rfl, Nat.le_of_ble_eq_true rfl⟩) (ct_pre ct_G0ok trivial hK hP hD hS hA [] rfl (by decide) [] rfl) rfl rfl hl.1 rfl (lv_room (Nat.le_of_ble_eq_true rfl)) d_F_cosine_17 ⟨Nat.le_of_ble_eq_true rfl, Nat.le_of_ble_eq_true rfl⟩) hP hD hS hA [] rfl (by decide) (fun _ => rfl) (fun r9 u7 H locs hw hP hD hS => ?_)
  subst hw
  obtain ⟨hP, hD⟩ : va_P (dC, dI) cl9 (fw_w fx sd tb tc ad cL u) H ∧ va_D A (fw_w fx sd tb tc ad cL u) := ct_eqP (ct_sets_nil _ _) hP hD
  refine lv_iconst (v := 1) hx hb d_F_cosine_20 (by decide) ?_
  refine cs_callv (va_runV (As := [.long (pu_abl x.toInt64), .int 1]) (rest := []) ⟨hx, hb, hml, hown, ha⟩ (c_K_swing l dC dI ad cL u (pu_abl x.toInt64) 1 tl th ta _) (cwV 2 ha g_F_K_swing rfl rfl rfl (by decide +kernel) ⟨Nat.le_of_ble_eq_true rfl, Nat.le_of_ble_eq_true rfl⟩) (ct_preV (kg_Gok tl th ta) hG.2 hK hP hD hS hA [1, 2, 3, 4, 5, 6, 7, 8, 9, 10, 11, 12, 13, 14, 15, 16] rfl (by decide) [0] rfl 1 1 rfl rfl rfl) rfl rfl hl.1 rfl (lv_room (Nat.le_of_ble_eq_true rfl)) d_F_cosine_21 ⟨Nat.le_of_ble_eq_true rfl, Nat.le_of_ble_eq_true rfl⟩) hP hD hS hA [1, 2, 3, 4, 5, 6, 7, 8, 9, 10, 11, 12, 13, 14, 15, 16] rfl (by decide) (fun _ => rfl) (fun u_1 H locs hu_1 hP hD hS => ?_)
  obtain ⟨hP, hD⟩ : va_P (dC, dI) cl9 (fw_w fx sd tb tc ad cL u_1) H ∧ va_D A (fw_w fx sd tb tc ad cL u_1) := ct_eqP (fkwA fx sd tb tc ad cL u _) hP hD
  refine lv_aload_n hx hb d_F_cosine_24 rfl (lv_at hl 0 rfl) ?_
  refine va_get (D := (dC, dI)) (ci := 3) (v := .ref (ad 0)) (C := R_F) (T := F_F) (N := 4) hx hb ha ui_F hown hK hP 0 rfl rfl 3 (by decide) (ha _ wm_F_10) (fun _ h9 => h9) rfl d_F_cosine_25 ?_
  refine lv_ldc2 (v := 1000000000) hx hb hown (ha _ wm_F_22) d_F_cosine_28 ?_
  refine cs_calll (va_runV (As := [.long 1000000000]) (rest := []) ⟨hx, hb, hml, hown, ha⟩ (c_K_floorTimes l dC dI ad cL u_1 1000000000 _) (cwV 1 ha g_F_K_floorTimes rfl rfl rfl (by decide +kernel) ⟨Nat.le_of_ble_eq_true rfl, Nat.le_of_ble_eq_true rfl⟩) (ct_preV ct_G0ok trivial hK hP hD hS hA [1, 2, 3, 4, 5, 6, 7, 8, 9, 10, 11, 12, 13, 14, 15, 16] rfl (by decide) [0] rfl 1 1 rfl rfl rfl) rfl rfl hl.1 rfl (lv_room (Nat.le_of_ble_eq_true rfl)) d_F_cosine_31 ⟨Nat.le_of_ble_eq_true rfl, Nat.le_of_ble_eq_true rfl⟩) hP hD hS hA [1, 2, 3, 4, 5, 6, 7, 8, 9, 10, 11, 12, 13, 14, 15, 16] rfl (by decide) (fun _ => rfl) (fun r_4 u_3 H locs hu_3 hP hD hS => ?_)
  obtain ⟨hu_3, hr_4⟩ := hu_3
  obtain ⟨hP, hD⟩ : va_P (dC, dI) cl9 (fw_w fx sd tb tc ad cL u_3) H ∧ va_D A (fw_w fx sd tb tc ad cL u_3) := ct_eqP (fkwA fx sd tb tc ad cL u_1 _) hP hD
  refine W.widen (k := 1) (n := 6) (Nat.le_of_ble_eq_true rfl) (Nat.le_of_ble_eq_true rfl) ?_
  exact vx_ret (ct_lret hF d_F_cosine_34 u_3 (by subst hr_4; subst hu_3; subst hu_1; exact ⟨hq, rfl⟩) hP hD hK hS)
set_option maxHeartbeats 1000000 in
set_option maxRecDepth 100000 in
/-- the angle of a point, in billionths -/
theorem c_F_angle (l : Launch) (hst : l.stackTraces = false) (dC : Nat → ClassId) (dI : Nat → Nat → Nat) (fx : Nat) (sd : Int64) (tb tc : Nat) (ad : Nat → Nat) (cL : ClassId) (u : rk_U) (s1 s2 s3 s4 tl th ta : Nat) (y x : Int32) (sz : Nat) : cx_L l y_F_angle w_F_angle { frames := 7, cells := 2, slots := 12, locals := 160 } (dC, dI) cl9 [(cL, .long)] (fg_G s1 s2 s3 s4 tl th ta) [.ref fx, .int y, .int x] (fw_w fx sd tb tc ad cL u) sz (S := rk_U) (fun r (u' : rk_U) => ((-1000000 ≤ y.toInt64 ∧ y.toInt64 ≤ 1000000) ∧ (-1000000 ≤ x.toInt64 ∧ x.toInt64 ≤ 1000000)) ∧ ((x = 0 ∧ y = 0 ∧ r = -9223372036854775808 ∧ u' = u) ∨ (¬ (x = 0 ∧ y = 0) ∧ r = fn_r 1000000000 (rk_point y x u)))) (fun _ : rk_U => [(cL, .long)]) (fun u' : rk_U => fw_w fx sd tb tc ad cL u') (fun E => E = "java/lang/IllegalArgumentException" ∧ ((y.toInt64 < -1000000 ∨ 1000000 < y.toInt64) ∨ (x.toInt64 < -1000000 ∨ 1000000 < x.toInt64))) 2 12 := by
  refine cx_of (Qf := fun A => va_Ql (fun r (u' : rk_U) => ((-1000000 ≤ y.toInt64 ∧ y.toInt64 ≤ 1000000) ∧ (-1000000 ≤ x.toInt64 ∧ x.toInt64 ≤ 1000000)) ∧ ((x = 0 ∧ y = 0 ∧ r = -9223372036854775808 ∧ u' = u) ∨ (¬ (x = 0 ∧ y = 0) ∧ r = fn_r 1000000000 (rk_point y x u)))) (ct_B (S := rk_U) (dC, dI) cl9 (fun _ : rk_U => [(cL, .long)]) A (fun u' : rk_U => fw_w fx sd tb tc ad cL u')) A) (Xf := cx_XC (dC, dI) cl9 [(cL, .long)] (fw_w fx sd tb tc ad cL u) (fun E => E = "java/lang/IllegalArgumentException" ∧ ((y.toInt64 < -1000000 ∨ 1000000 < y.toInt64) ∨ (x.toInt64 < -1000000 ∨ 1000000 < x.toInt64)))) (cc := b_F_angle) (maxL := 3) (ret := ((some .long))) (by decide) rfl (Nat.le_of_ble_eq_true rfl) ?_
  intro p e s m below meth c A ls hF hno hA hP hK hD hG hS hl
  obtain ⟨hx, hb, hr, hml, hts, hown, hlocks, hnm⟩ := id hF
  have hown : s.vm.findClass R_F = some m.cls := hown
  have ha : ∀ w ∈ al_F, w.before [.ref fx, .int y, .int x].toArray s = true := fun w h => hts w (List.mem_cons_of_mem _ h)
  have hl : lv_has ls 3 [(0, .ref fx), (1, .int y), (2, .int x)] := hl
  refine lv_iload_n hx hb d_F_angle_0 rfl (lv_at hl 1 rfl) ?_
  refine lv_i2l hx hb d_F_angle_1 rfl ?_
  refine lv_ldc2 (v := (-1000000)) hx hb hown (ha _ wm_F_55) d_F_angle_2 ?_
  refine lv_ldc2 (v := 1000000) hx hb hown (ha _ wm_F_33) d_F_angle_5 ?_
  refine cx_callv (vx_runS (As := [.long ((y : Int32).toInt64), .long (-1000000), .long 1000000]) (rest := []) ⟨hx, hb, hml, hown, ha⟩ (c_F_demandWithin l hst dC dI ((y : Int32).toInt64) (-1000000) 1000000 s1 s2 s3 s4 _) (va_cwS 3 ha g_F_F_demandWithin rfl rfl rfl (by decide +kernel) ⟨Nat.le_of_ble_eq_true rfl, Nat.le_of_ble_eq_true rfl⟩) (ct_pre (xg_Gok s1 s2 s3 s4) hG.1 hK hP hD hS hA [] rfl (by decide) [] rfl) rfl rfl hl.1 rfl (lv_room (Nat.le_of_ble_eq_true rfl)) d_F_angle_8 ⟨Nat.le_of_ble_eq_true rfl, Nat.le_of_ble_eq_true rfl⟩) hP hD hS hA [] rfl (by decide) (fun _ => rfl) (fun E ce q9 H locs hE hP hS hcell hv hcl => cx_out hno hlocks ⟨hE.1, Or.inl hE.2⟩ hP hK hD hS hcell hv hcl (Nat.le_of_ble_eq_true rfl) (Nat.le_of_ble_eq_true rfl)) (fun u7 H locs hq hP hD hS => ?_)
  obtain ⟨hP, hD⟩ : va_P (dC, dI) cl9 (fw_w fx sd tb tc ad cL u) H ∧ va_D A (fw_w fx sd tb tc ad cL u) := ct_eqP (ct_sets_nil _ _) hP hD
  refine lv_iload_n hx hb d_F_angle_11 rfl (lv_at hl 2 rfl) ?_
  refine lv_i2l hx hb d_F_angle_12 rfl ?_
  refine lv_ldc2 (v := (-1000000)) hx hb hown (ha _ wm_F_55) d_F_angle_13 ?_
  refine lv_ldc2 (v := 1000000) hx hb hown (ha _ wm_F_33) d_F_angle_16 ?_
  refine cx_callv (vx_runS (As := [.long ((x : Int32).toInt64), .long (-1000000), .long 1000000]) (rest := []) ⟨hx, hb, hml, hown, ha⟩ (c_F_demandWithin l hst dC dI ((x : Int32).toInt64) (-1000000) 1000000 s1 s2 s3 s4 _) (va_cwS 3 ha g_F_F_demandWithin rfl rfl rfl (by decide +kernel) ⟨Nat.le_of_ble_eq_true rfl, Nat.le_of_ble_eq_true rfl⟩) (ct_pre (xg_Gok s1 s2 s3 s4) hG.1 hK hP hD hS hA [] rfl (by decide) [] rfl) rfl rfl hl.1 rfl (lv_room (Nat.le_of_ble_eq_true rfl)) d_F_angle_19 ⟨Nat.le_of_ble_eq_true rfl, Nat.le_of_ble_eq_true rfl⟩) hP hD hS hA [] rfl (by decide) (fun _ => rfl) (fun E ce q9 H locs hE hP hS hcell hv hcl => cx_out hno hlocks ⟨hE.1, Or.inr hE.2⟩ hP hK hD hS hcell hv hcl (Nat.le_of_ble_eq_true rfl) (Nat.le_of_ble_eq_true rfl)) (fun u7 H locs hq2 hP hD hS => ?_)
  obtain ⟨hP, hD⟩ : va_P (dC, dI) cl9 (fw_w fx sd tb tc ad cL u) H ∧ va_D A (fw_w fx sd tb tc ad cL u) := ct_eqP (ct_sets_nil _ _) hP hD
  refine lv_iload_n hx hb d_F_angle_22 rfl (lv_at hl 2 rfl) ?_
  refine lv_if_ne (tgt := 34) hx hb d_F_angle_23 (by decide) (fun h1 => ?_) (fun h1 => ?_)
  · refine lv_aload_n hx hb d_F_angle_34 rfl (lv_at hl 0 rfl) ?_
    refine va_get (D := (dC, dI)) (ci := 3) (v := .ref (ad 0)) (C := R_F) (T := F_F) (N := 4) hx hb ha ui_F hown hK hP 0 rfl rfl 3 (by decide) (ha _ wm_F_10) (fun _ h9 => h9) rfl d_F_angle_35 ?_
    refine lv_iload_n hx hb d_F_angle_38 rfl (lv_at hl 1 rfl) ?_
    refine lv_iload_n hx hb d_F_angle_39 rfl (lv_at hl 2 rfl) ?_
    refine cs_callv (va_runV (As := [.int y, .int x]) (rest := []) ⟨hx, hb, hml, hown, ha⟩ (c_K_pointTo l dC dI ad cL u y x tl th ta _) (cwV 2 ha g_F_K_pointTo rfl rfl rfl (by decide +kernel) ⟨Nat.le_of_ble_eq_true rfl, Nat.le_of_ble_eq_true rfl⟩) (ct_preV (kg_Gok tl th ta) hG.2 hK hP hD hS hA [1, 2, 3, 4, 5, 6, 7, 8, 9, 10, 11, 12, 13, 14, 15, 16] rfl (by decide) [0] rfl 1 1 rfl rfl rfl) rfl rfl hl.1 rfl (lv_room (Nat.le_of_ble_eq_true rfl)) d_F_angle_40 ⟨Nat.le_of_ble_eq_true rfl, Nat.le_of_ble_eq_true rfl⟩) hP hD hS hA [1, 2, 3, 4, 5, 6, 7, 8, 9, 10, 11, 12, 13, 14, 15, 16] rfl (by decide) (fun _ => rfl) (fun u_1 H locs hu_1 hP hD hS => ?_)
    obtain ⟨hP, hD⟩ : va_P (dC, dI) cl9 (fw_w fx sd tb tc ad cL u_1) H ∧ va_D A (fw_w fx sd tb tc ad cL u_1) := ct_eqP (fkwA fx sd tb tc ad cL u _) hP hD
    refine lv_aload_n hx hb d_F_angle_43 rfl (lv_at hl 0 rfl) ?_
    refine va_get (D := (dC, dI)) (ci := 3) (v := .ref (ad 0)) (C := R_F) (T := F_F) (N := 4) hx hb ha ui_F hown hK hP 0 rfl rfl 3 (by decide) (ha _ wm_F_10) (fun _ h9 => h9) rfl d_F_angle_44 ?_
    refine lv_ldc2 (v := 1000000000) hx hb hown (ha _ wm_F_22) d_F_angle_47 ?_
    refine cs_calll (va_runV (As := [.long 1000000000]) (rest := []) ⟨hx, hb, hml, hown, ha⟩ (c_K_floorTimes l dC dI ad cL u_1 1000000000 _) (cwV 1 ha g_F_K_floorTimes rfl rfl rfl (by decide +kernel) ⟨Nat.le_of_ble_eq_true rfl, Nat.le_of_ble_eq_true rfl⟩) (ct_preV ct_G0ok trivial hK hP hD hS hA [1, 2, 3, 4, 5, 6, 7, 8, 9, 10, 11, 12, 13, 14, 15, 16] rfl (by decide) [0] rfl 1 1 rfl rfl rfl) rfl rfl hl.1 rfl (lv_room (Nat.le_of_ble_eq_true rfl)) d_F_angle_50 ⟨Nat.le_of_ble_eq_true rfl, Nat.le_of_ble_eq_true rfl⟩) hP hD hS hA [1, 2, 3, 4, 5, 6, 7, 8, 9, 10, 11, 12, 13, 14, 15, 16] rfl (by decide) (fun _ => rfl) (fun r_4 u_3 H locs hu_3 hP hD hS => ?_)
    obtain ⟨hu_3, hr_4⟩ := hu_3
    obtain ⟨hP, hD⟩ : va_P (dC, dI) cl9 (fw_w fx sd tb tc ad cL u_3) H ∧ va_D A (fw_w fx sd tb tc ad cL u_3) := ct_eqP (fkwA fx sd tb tc ad cL u_1 _) hP hD
    refine W.widen (k := 2) (n := 12) (Nat.le_of_ble_eq_true rfl) (Nat.le_of_ble_eq_true rfl) ?_
    exact vx_ret (ct_lret hF d_F_angle_53 u_3 (by subst hr_4; subst hu_3; subst hu_1; exact ⟨⟨hq, hq2⟩, Or.inr ⟨fun q => h1 q.1, rfl⟩⟩) hP hD hK hS)
  · refine lv_iload_n hx hb d_F_angle_26 rfl (lv_at hl 1 rfl) ?_
    refine lv_if_ne (tgt := 34) hx hb d_F_angle_27 (by decide) (fun h2 => ?_) (fun h2 => ?_)
    · refine lv_aload_n hx hb d_F_angle_34 rfl (lv_at hl 0 rfl) ?_
      refine va_get (D := (dC, dI)) (ci := 3) (v := .ref (ad 0)) (C := R_F) (T := F_F) (N := 4) hx hb ha ui_F hown hK hP 0 rfl rfl 3 (by decide) (ha _ wm_F_10) (fun _ h9 => h9) rfl d_F_angle_35 ?_
      refine lv_iload_n hx hb d_F_angle_38 rfl (lv_at hl 1 rfl) ?_
      refine lv_iload_n hx hb d_F_angle_39 rfl (lv_at hl 2 rfl) ?_
      refine cs_callv (va_runV (As := [.int y, .int x]) (rest := []) ⟨hx, hb, hml, hown, ha⟩ (c_K_pointTo l dC dI ad cL u y x tl th ta _) (cwV 2 ha g_F_K_pointTo rfl rfl rfl (by decide +kernel) ⟨Nat.le_of_ble_eq_true rfl, Nat.le_of_ble_eq_true rfl⟩) (ct_preV (kg_Gok tl th ta) hG.2 hK hP hD hS hA [1, 2, 3, 4, 5, 6, 7, 8, 9, 10, 11, 12, 13, 14, 15, 16] rfl (by decide) [0] rfl 1 1 rfl rfl rfl) rfl rfl hl.1 rfl (lv_room (Nat.le_of_ble_eq_true rfl)) d_F_angle_40 ⟨Nat.le_of_ble_eq_true rfl, Nat.le_of_ble_eq_true rfl⟩) hP hD hS hA [1, 2, 3, 4, 5, 6, 7, 8, 9, 10, 11, 12, 13, 14, 15, 16] rfl (by decide) (fun _ => rfl) (fun u_5 H locs hu_5 hP hD hS => ?_)
      obtain ⟨hP, hD⟩ : va_P (dC, dI) cl9 (fw_w fx sd tb tc ad cL u_5) H ∧ va_D A (fw_w fx sd tb tc ad cL u_5) := ct_eqP (fkwA fx sd tb tc ad cL u _) hP hD
      refine lv_aload_n hx hb d_F_angle_43 rfl (lv_at hl 0 rfl) ?_
      refine va_get (D := (dC, dI)) (ci := 3) (v := .ref (ad 0)) (C := R_F) (T := F_F) (N := 4) hx hb ha ui_F hown hK hP 0 rfl rfl 3 (by decide) (ha _ wm_F_10) (fun _ h9 => h9) rfl d_F_angle_44 ?_
      refine lv_ldc2 (v := 1000000000) hx hb hown (ha _ wm_F_22) d_F_angle_47 ?_
      refine cs_calll (va_runV (As := [.long 1000000000]) (rest := []) ⟨hx, hb, hml, hown, ha⟩ (c_K_floorTimes l dC dI ad cL u_5 1000000000 _) (cwV 1 ha g_F_K_floorTimes rfl rfl rfl (by decide +kernel) ⟨Nat.le_of_ble_eq_true rfl, Nat.le_of_ble_eq_true rfl⟩) (ct_preV ct_G0ok trivial hK hP hD hS hA [1, 2, 3, 4, 5, 6, 7, 8, 9, 10, 11, 12, 13, 14, 15, 16] rfl (by decide) [0] rfl 1 1 rfl rfl rfl) rfl rfl hl.1 rfl (lv_room (Nat.le_of_ble_eq_true rfl)) d_F_angle_50 ⟨Nat.le_of_ble_eq_true rfl, Nat.le_of_ble_eq_true rfl⟩) hP hD hS hA [1, 2, 3, 4, 5, 6, 7, 8, 9, 10, 11, 12, 13, 14, 15, 16] rfl (by decide) (fun _ => rfl) (fun r_8 u_7 H locs hu_7 hP hD hS => ?_)
      obtain ⟨hu_7, hr_8⟩ := hu_7
      obtain ⟨hP, hD⟩ : va_P (dC, dI) cl9 (fw_w fx sd tb tc ad cL u_7) H ∧ va_D A (fw_w fx sd tb tc ad cL u_7) := ct_eqP (fkwA fx sd tb tc ad cL u_5 _) hP hD
      refine W.widen (k := 2) (n := 12) (Nat.le_of_ble_eq_true rfl) (Nat.le_of_ble_eq_true rfl) ?_
      exact vx_ret (ct_lret hF d_F_angle_53 u_7 (by subst hr_8; subst hu_7; subst hu_5; exact ⟨⟨hq, hq2⟩, Or.inr ⟨fun q => h2 q.2, rfl⟩⟩) hP hD hK hS)
    · refine lv_ldc2 (v := (-9223372036854775808)) hx hb hown (ha _ wm_F_39) d_F_angle_30 ?_
      refine W.widen (k := 2) (n := 12) (Nat.le_of_ble_eq_true rfl) (Nat.le_of_ble_eq_true rfl) ?_
      exact vx_ret (ct_lret hF d_F_angle_33 u ⟨⟨hq, hq2⟩, Or.inl ⟨h1, h2, rfl, rfl⟩⟩ hP hD hK hS)
