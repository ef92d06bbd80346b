abbrev fw_w (fx : Nat) (sd : Int64) (tb tc : Nat) (ad : Nat → Nat) (cL : ClassId) (u : rk_U) : va_W := (fx, .inr (3, [.long sd, .ref tb, .int (nI tc), .ref (ad 0)])) :: rk_w ad cL u
theorem fkwA (fx : Nat) (sd : Int64) (tb tc : Nat) (ad : Nat → Nat) (cL : ClassId) (u v : rk_U) : ct_sets (fw_w fx sd tb tc ad cL u) [1, 2, 3, 4, 5, 6, 7, 8, 9, 10, 11, 12, 13, 14, 15, 16] (rk_w ad cL v) = fw_w fx sd tb tc ad cL v := rfl
def fg_G (s1 s2 s3 s4 tl th ta : Nat) : ct_GT := fun A U H => xg_G s1 s2 s3 s4 A U H ∧ kg_G tl th ta A U H
theorem fg_Gok (s1 s2 s3 s4 tl th ta : Nat) : ct_Gok (fg_G s1 s2 s3 s4 tl th ta) := ⟨fun A u U H h q => ⟨(xg_Gok s1 s2 s3 s4).1 A u U H h q.1, (kg_Gok tl th ta).1 A u U H h q.2⟩, fun A U H H1 h q => ⟨(xg_Gok s1 s2 s3 s4).2.1 A U H H1 h q.1, (kg_Gok tl th ta).2.1 A U H H1 h q.2⟩, fun A B U H h q => ⟨(xg_Gok s1 s2 s3 s4).2.2 A B U H h q.1, (kg_Gok tl th ta).2.2 A B U H h q.2⟩⟩
def fn_fl (k : Int64) (u : rk_U) : rk_U := rk_scl 0 k u
def fn_r (k : Int64) (u : rk_U) : Int64 := wr_wh (rk_scl 0 k u 0)
set_option maxHeartbeats 1000000 in
set_option maxRecDepth 100000 in
/-- e to the x millionths, in billionths -/
theorem c_F_power (l : Launch) (hst : l.stackTraces = false) (dC : Nat → ClassId) (dI : Nat → Nat → Nat) (fx : Nat) (sd : Int64) (tb tc : Nat) (ad : Nat → Nat) (cL : ClassId) (u : rk_U) (s1 s2 s3 s4 tl th ta : Nat) (x : Int32) (sz : Nat) : cx_L l y_F_power w_F_power { frames := 7, cells := 1, slots := 6, locals := 160 } (dC, dI) cl9 [(cL, .long)] (fg_G s1 s2 s3 s4 tl th ta) [.ref fx, .int x] (fw_w fx sd tb tc ad cL u) sz (S := rk_U) (fun r (u' : rk_U) => (-20000000 ≤ x.toInt64 ∧ x.toInt64 ≤ 20000000) ∧ r = fn_r 1000000000 (rk_raise x.toInt64 1000000 u)) (fun _ : rk_U => [(cL, .long)]) (fun u' : rk_U => fw_w fx sd tb tc ad cL u') (fun E => E = "java/lang/IllegalArgumentException" ∧ (x.toInt64 < -20000000 ∨ 20000000 < x.toInt64)) 1 6 := by
  refine cx_of (Qf := fun A => va_Ql (fun r (u' : rk_U) => (-20000000 ≤ x.toInt64 ∧ x.toInt64 ≤ 20000000) ∧ r = fn_r 1000000000 (rk_raise x.toInt64 1000000 u)) (ct_B (S := rk_U) (dC, dI) cl9 (fun _ : rk_U => [(cL, .long)]) A (fun u' : rk_U => fw_w fx sd tb tc ad cL u')) A) (Xf := cx_XC (dC, dI) cl9 [(cL, .long)] (fw_w fx sd tb tc ad cL u) (fun E => E = "java/lang/IllegalArgumentException" ∧ (x.toInt64 < -20000000 ∨ 20000000 < x.toInt64))) (cc := b_F_power) (maxL := 2) (ret := ((some .long))) (by decide) rfl (Nat.le_of_ble_eq_true rfl) ?_
  intro p e s m below meth c A ls hF hno hA hP hK hD hG hS hl
  obtain ⟨hx, hb, hr, hml, hts, hown, hlocks, hnm⟩ := id hF
  have hown : s.vm.findClass R_F = some m.cls := hown
  have ha : ∀ w ∈ al_F, w.before [.ref fx, .int x].toArray s = true := fun w h => hts w (List.mem_cons_of_mem _ h)
  have hl : lv_has ls 2 [(0, .ref fx), (1, .int x)] := hl
  refine lv_iload_n hx hb d_F_power_0 rfl (lv_at hl 1 rfl) ?_
  refine lv_i2l hx hb d_F_power_1 rfl ?_
  refine lv_ldc2 (v := (-20000000)) hx hb hown (ha _ wm_F_26) d_F_power_2 ?_
  refine lv_ldc2 (v := 20000000) hx hb hown (ha _ wm_F_27) d_F_power_5 ?_
  refine cx_callv (vx_runS (As := [.long ((x : Int32).toInt64), .long (-20000000), .long 20000000]) (rest := []) ⟨hx, hb, hml, hown, ha⟩ (c_F_demandWithin l hst dC dI ((x : Int32).toInt64) (-20000000) 20000000 s1 s2 s3 s4 _) (va_cwS 3 ha g_F_F_demandWithin rfl rfl rfl (by decide +kernel) ⟨Nat.le_of_ble_eq_true rfl, Nat.le_of_ble_eq_true rfl⟩) (ct_pre (xg_Gok s1 s2 s3 s4) hG.1 hK hP hD hS hA [] rfl (by decide) [] rfl) rfl rfl hl.1 rfl (lv_room (Nat.le_of_ble_eq_true rfl)) d_F_power_8 ⟨Nat.le_of_ble_eq_true rfl, Nat.le_of_ble_eq_true rfl⟩) hP hD hS hA [] rfl (by decide) (fun _ => rfl) (fun E ce q9 H locs hE hP hS hcell hv hcl => cx_out hno hlocks hE hP hK hD hS hcell hv hcl (Nat.le_of_ble_eq_true rfl) (Nat.le_of_ble_eq_true rfl)) (fun u7 H locs hq hP hD hS => ?_)
  obtain ⟨hP, hD⟩ : va_P (dC, dI) cl9 (fw_w fx sd tb tc ad cL u) H ∧ va_D A (fw_w fx sd tb tc ad cL u) := ct_eqP (ct_sets_nil _ _) hP hD
  refine lv_aload_n hx hb d_F_power_11 rfl (lv_at hl 0 rfl) ?_
  refine va_get (D := (dC, dI)) (ci := 3) (v := .ref (ad 0)) (C := R_F) (T := F_F) (N := 4) hx hb ha ui_F hown hK hP 0 rfl rfl 3 (by decide) (ha _ wm_F_10) (fun _ h9 => h9) rfl d_F_power_12 ?_
  refine lv_iload_n hx hb d_F_power_15 rfl (lv_at hl 1 rfl) ?_
  refine lv_i2l hx hb d_F_power_16 rfl ?_
  refine lv_ldc2 (v := 1000000) hx hb hown (ha _ wm_F_33) d_F_power_17 ?_
  refine cs_callv (va_runV (As := [.long ((x : Int32).toInt64), .long 1000000]) (rest := []) ⟨hx, hb, hml, hown, ha⟩ (c_K_raiseE l dC dI ad cL u x.toInt64 1000000 _) (cwV 2 ha g_F_K_raiseE rfl rfl rfl (by decide +kernel) ⟨Nat.le_of_ble_eq_true rfl, Nat.le_of_ble_eq_true rfl⟩) (ct_preV ct_G0ok trivial hK hP hD hS hA [1, 2, 3, 4, 5, 6, 7, 8, 9, 10, 11, 12, 13, 14, 15, 16] rfl (by decide) [0] rfl 1 1 rfl rfl rfl) rfl rfl hl.1 rfl (lv_room (Nat.le_of_ble_eq_true rfl)) d_F_power_20 ⟨Nat.le_of_ble_eq_true rfl, Nat.le_of_ble_eq_true rfl⟩) hP hD hS hA [1, 2, 3, 4, 5, 6, 7, 8, 9, 10, 11, 12, 13, 14, 15, 16] rfl (by decide) (fun _ => rfl) (fun u_1 H locs hu_1 hP hD hS => ?_)
  obtain ⟨hP, hD⟩ : va_P (dC, dI) cl9 (fw_w fx sd tb tc ad cL u_1) H ∧ va_D A (fw_w fx sd tb tc ad cL u_1) := ct_eqP (fkwA fx sd tb tc ad cL u _) hP hD
  refine lv_aload_n hx hb d_F_power_23 rfl (lv_at hl 0 rfl) ?_
  refine va_get (D := (dC, dI)) (ci := 3) (v := .ref (ad 0)) (C := R_F) (T := F_F) (N := 4) hx hb ha ui_F hown hK hP 0 rfl rfl 3 (by decide) (ha _ wm_F_10) (fun _ h9 => h9) rfl d_F_power_24 ?_
  refine lv_ldc2 (v := 1000000000) hx hb hown (ha _ wm_F_22) d_F_power_27 ?_
  refine cs_calll (va_runV (As := [.long 1000000000]) (rest := []) ⟨hx, hb, hml, hown, ha⟩ (c_K_floorTimes l dC dI ad cL u_1 1000000000 _) (cwV 1 ha g_F_K_floorTimes rfl rfl rfl (by decide +kernel) ⟨Nat.le_of_ble_eq_true rfl, Nat.le_of_ble_eq_true rfl⟩) (ct_preV ct_G0ok trivial hK hP hD hS hA [1, 2, 3, 4, 5, 6, 7, 8, 9, 10, 11, 12, 13, 14, 15, 16] rfl (by decide) [0] rfl 1 1 rfl rfl rfl) rfl rfl hl.1 rfl (lv_room (Nat.le_of_ble_eq_true rfl)) d_F_power_30 ⟨Nat.le_of_ble_eq_true rfl, Nat.le_of_ble_eq_true rfl⟩) hP hD hS hA [1, 2, 3, 4, 5, 6, 7, 8, 9, 10, 11, 12, 13, 14, 15, 16] rfl (by decide) (fun _ => rfl) (fun r_4 u_3 H locs hu_3 hP hD hS => ?_)
  obtain ⟨hu_3, hr_4⟩ := hu_3
  obtain ⟨hP, hD⟩ : va_P (dC, dI) cl9 (fw_w fx sd tb tc ad cL u_3) H ∧ va_D A (fw_w fx sd tb tc ad cL u_3) := ct_eqP (fkwA fx sd tb tc ad cL u_1 _) hP hD
  refine W.widen (k := 1) (n := 6) (Nat.le_of_ble_eq_true rfl) (Nat.le_of_ble_eq_true rfl) ?_
  exact vx_ret (ct_lret hF d_F_power_33 u_3 (by subst hr_4; subst hu_3; subst hu_1; exact ⟨hq, rfl⟩) hP hD hK hS)
set_option maxHeartbeats 1000000 in
set_option maxRecDepth 100000 in
/-- the logarithm of v millionths, in billionths -/
theorem c_F_logarithm (l : Launch) (hst : l.stackTraces = false) (dC : Nat → ClassId) (dI : Nat → Nat → Nat) (fx : Nat) (sd : Int64) (tb tc : Nat) (ad : Nat → Nat) (cL : ClassId) (u : rk_U) (s1 s2 s3 s4 tl th ta : Nat) (v : Int64) (sz : Nat) : cx_L l y_F_logarithm w_F_logarithm { frames := 7, cells := 1, slots := 6, locals := 160 } (dC, dI) cl9 [(cL, .long)] (fg_G s1 s2 s3 s4 tl th ta) [.ref fx, .long v] (fw_w fx sd tb tc ad cL u) sz (S := rk_U) (fun r (u' : rk_U) => (v ≤ 0 ∧ r = -9223372036854775808 ∧ u' = u) ∨ ((0 < v ∧ v ≤ 1000000000000) ∧ r = fn_r 1000000000 (rk_log v 1000000 u))) (fun _ : rk_U => [(cL, .long)]) (fun u' : rk_U => fw_w fx sd tb tc ad cL u') (fun E => E = "java/lang/IllegalArgumentException" ∧ 0 < v ∧ 1000000000000 < v) 1 6 := by
  refine cx_of (Qf := fun A => va_Ql (fun r (u' : rk_U) => (v ≤ 0 ∧ r = -9223372036854775808 ∧ u' = u) ∨ ((0 < v ∧ v ≤ 1000000000000) ∧ r = fn_r 1000000000 (rk_log v 1000000 u))) (ct_B (S := rk_U) (dC, dI) cl9 (fun _ : rk_U => [(cL, .long)]) A (fun u' : rk_U => fw_w fx sd tb tc ad cL u')) A) (Xf := cx_XC (dC, dI) cl9 [(cL, .long)] (fw_w fx sd tb tc ad cL u) (fun E => E = "java/lang/IllegalArgumentException" ∧ 0 < v ∧ 1000000000000 < v)) (cc := b_F_logarithm) (maxL := 3) (ret := ((some .long))) (by decide) rfl (Nat.le_of_ble_eq_true rfl) ?_
  intro p e s m below meth c A ls hF hno hA hP hK hD hG hS hl
  obtain ⟨hx, hb, hr, hml, hts, hown, hlocks, hnm⟩ := id hF
  have hown : s.vm.findClass R_F = some m.cls := hown
  have ha : ∀ w ∈ al_F, w.before [.ref fx, .long v].toArray s = true := fun w h => hts w (List.mem_cons_of_mem _ h)
  have hl : lv_has ls 3 [(0, .ref fx), (1, .long v)] := hl
  refine lv_lload_n hx hb d_F_logarithm_0 rfl (lv_at hl 1 rfl) ?_
  refine lv_lconst (v := 0) hx hb d_F_logarithm_1 (by decide) ?_
  refine ct_jgt (tgt := 10) hx hb d_F_logarithm_2 d_F_logarithm_3 (by decide) (fun h0 => ?_) (fun h0 => ?_)
  · refine lv_lload_n hx hb d_F_logarithm_10 rfl (lv_at hl 1 rfl) ?_
    refine lv_lconst (v := 1) hx hb d_F_logarithm_11 (by decide) ?_
    refine lv_ldc2 (v := 1000000000000) hx hb hown (ha _ wm_F_40) d_F_logarithm_12 ?_
    refine cx_callv (vx_runS (As := [.long v, .long 1, .long 1000000000000]) (rest := []) ⟨hx, hb, hml, hown, ha⟩ (c_F_demandWithin l hst dC dI v 1 1000000000000 s1 s2 s3 s4 _) (va_cwS 3 ha g_F_F_demandWithin rfl rfl rfl (by decide +kernel) ⟨Nat.le_of_ble_eq_true rfl, Nat.le_of_ble_eq_true rfl⟩) (ct_pre (xg_Gok s1 s2 s3 s4) hG.1 hK hP hD hS hA [] rfl (by decide) [] rfl) rfl rfl hl.1 rfl (lv_room (Nat.le_of_ble_eq_true rfl)) d_F_logarithm_15 ⟨Nat.le_of_ble_eq_true rfl, Nat.le_of_ble_eq_true rfl⟩) hP hD hS hA [] rfl (by decide) (fun _ => rfl) (fun E ce q9 H locs hE hP hS hcell hv hcl => cx_out hno hlocks ⟨hE.1, h0, hE.2.elim (fun q => absurd q (ct_nlt1 h0)) id⟩ hP hK hD hS hcell hv hcl (Nat.le_of_ble_eq_true rfl) (Nat.le_of_ble_eq_true rfl)) (fun u7 H locs hq hP hD hS => ?_)
    obtain ⟨hP, hD⟩ : va_P (dC, dI) cl9 (fw_w fx sd tb tc ad cL u) H ∧ va_D A (fw_w fx sd tb tc ad cL u) := ct_eqP (ct_sets_nil _ _) hP hD
    refine lv_aload_n hx hb d_F_logarithm_18 rfl (lv_at hl 0 rfl) ?_
    refine va_get (D := (dC, dI)) (ci := 3) (v := .ref (ad 0)) (C := R_F) (T := F_F) (N := 4) hx hb ha ui_F hown hK hP 0 rfl rfl 3 (by decide) (ha _ wm_F_10) (fun _ h9 => h9) rfl d_F_logarithm_19 ?_
    refine lv_lload_n hx hb d_F_logarithm_22 rfl (lv_at hl 1 rfl) ?_
    refine lv_ldc2 (v := 1000000) hx hb hown (ha _ wm_F_33) d_F_logarithm_23 ?_
    refine cs_callv (va_runV (As := [.long v, .long 1000000]) (rest := []) ⟨hx, hb, hml, hown, ha⟩ (c_K_takeLog l dC dI ad cL u v 1000000 tl th ta _) (cwV 2 ha g_F_K_takeLog rfl rfl rfl (by decide +kernel) ⟨Nat.le_of_ble_eq_true rfl, Nat.le_of_ble_eq_true rfl⟩) (ct_preV (kg_Gok tl th ta) hG.2 hK hP hD hS hA [1, 2, 3, 4, 5, 6, 7, 8, 9, 10, 11, 12, 13, 14, 15, 16] rfl (by decide) [0] rfl 1 1 rfl rfl rfl) rfl rfl hl.1 rfl (lv_room (Nat.le_of_ble_eq_true rfl)) d_F_logarithm_26 ⟨Nat.le_of_ble_eq_true rfl, Nat.le_of_ble_eq_true rfl⟩) hP hD hS hA [1, 2, 3, 4, 5, 6, 7, 8, 9, 10, 11, 12, 13, 14, 15, 16] rfl (by decide) (fun _ => rfl) (fun u_1 H locs hu_1 hP hD hS => ?_)
    obtain ⟨hP, hD⟩ : va_P (dC, dI) cl9 (fw_w fx sd tb tc ad cL u_1) H ∧ va_D A (fw_w fx sd tb tc ad cL u_1) := ct_eqP (fkwA fx sd tb tc ad cL u _) hP hD
    refine lv_aload_n hx hb d_F_logarithm_29 rfl (lv_at hl 0 rfl) ?_
    refine va_get (D := (dC, dI)) (ci := 3) (v := .ref (ad 0)) (C := R_F) (T := F_F) (N := 4) hx hb ha ui_F hown hK hP 0 rfl rfl 3 (by decide) (ha _ wm_F_10) (fun _ h9 => h9) rfl d_F_logarithm_30 ?_
    refine lv_ldc2 (v := 1000000000) hx hb hown (ha _ wm_F_22) d_F_logarithm_33 ?_
    refine cs_calll (va_runV (As := [.long 1000000000]) (rest := []) ⟨hx, hb, hml, hown, ha⟩ (c_K_floorTimes l dC dI ad cL u_1 1000000000 _) (cwV 1 ha g_F_K_floorTimes rfl rfl rfl (by decide +kernel) ⟨Nat.le_of_ble_eq_true rfl, Nat.le_of_ble_eq_true rfl⟩) (ct_preV ct_G0ok trivial hK hP hD hS hA [1, 2, 3, 4, 5, 6, 7, 8, 9, 10, 11, 12, 13, 14, 15, 16] rfl (by decide) [0] rfl 1 1 rfl rfl rfl) rfl rfl hl.1 rfl (lv_room (Nat.le_of_ble_eq_true rfl)) d_F_logarithm_36 ⟨Nat.le_of_ble_eq_true rfl, Nat.le_of_ble_eq_true rfl⟩) hP hD hS hA [1, 2, 3, 4, 5, 6, 7, 8, 9, 10, 11, 12, 13, 14, 15, 16] rfl (by decide) (fun _ => rfl) (fun r_4 u_3 H locs hu_3 hP hD hS => ?_)
    obtain ⟨hu_3, hr_4⟩ := hu_3
    obtain ⟨hP, hD⟩ : va_P (dC, dI) cl9 (fw_w fx sd tb tc ad cL u_3) H ∧ va_D A (fw_w fx sd tb tc ad cL u_3) := ct_eqP (fkwA fx sd tb tc ad cL u_1 _) hP hD
    refine W.widen (k := 1) (n := 6) (Nat.le_of_ble_eq_true rfl) (Nat.le_of_ble_eq_true rfl) ?_
    exact vx_ret (ct_lret hF d_F_logarithm_39 u_3 (by subst hr_4; subst hu_3; subst hu_1; exact Or.inr ⟨⟨h0, hq.2⟩, rfl⟩) hP hD hK hS)
  · refine lv_ldc2 (v := (-9223372036854775808)) hx hb hown (ha _ wm_F_39) d_F_logarithm_6 ?_
    refine W.widen (k := 1) (n := 6) (Nat.le_of_ble_eq_true rfl) (Nat.le_of_ble_eq_true rfl) ?_
    exact vx_ret (ct_lret hF d_F_logarithm_9 u (Or.inl ⟨Int64.not_lt.mp h0, rfl, rfl⟩) hP hD hK hS)
