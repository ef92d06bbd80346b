theorem rt_k {k : Int32} (h : 2 ≤ k.toInt64 ∧ k.toInt64 ≤ 5) : ∃ kn : Nat, (2 ≤ kn ∧ kn ≤ 5) ∧ k = nI kn := by
  obtain ⟨h1, h2⟩ := h
  rw [Int64.le_iff_toInt_le] at h1 h2
  rw [Int32.toInt_toInt64] at h1 h2
  have e2 : (2 : Int64).toInt = 2 := rfl
  have e5 : (5 : Int64).toInt = 5 := rfl
  rw [e2] at h1
  rw [e5] at h2
  refine ⟨k.toInt.toNat, by omega, Int32.toInt_inj.mp ?_⟩
  rw [nI_toInt (by omega)]
  omega
set_option maxHeartbeats 1000000 in
set_option maxRecDepth 100000 in
/-- the pressure of damp air, in thousandths -/
theorem c_F_damp (l : Launch) (hst : l.stackTraces = false) (dC : Nat → ClassId) (dI : Nat → Nat → Nat) (fx : Nat) (sd : Int64) (tb tc : Nat) (ad : Nat → Nat) (cL : ClassId) (u : rk_U) (s1 s2 s3 s4 tl th ta : Nat) (t h : Int32) (sz : Nat) : cx_L l y_F_damp w_F_damp { frames := 7, cells := 2, slots := 12, locals := 160 } (dC, dI) cl9 [(cL, .long)] (fg_G s1 s2 s3 s4 tl th ta) [.ref fx, .int t, .int h] (fw_w fx sd tb tc ad cL u) sz (S := rk_U) (fun r (u' : rk_U) => ((-4000 ≤ t.toInt64 ∧ t.toInt64 ≤ 10000) ∧ (0 ≤ h.toInt64 ∧ h.toInt64 ≤ 10000)) ∧ r = fn_r (61094 * h.toInt64) (rk_raise (141 * t.toInt64) (8 * (24304 + t.toInt64)) u) / 1000) (fun _ : rk_U => [(cL, .long)]) (fun u' : rk_U => fw_w fx sd tb tc ad cL u') (fun E => E = "java/lang/IllegalArgumentException" ∧ ((t.toInt64 < -4000 ∨ 10000 < t.toInt64) ∨ (h.toInt64 < 0 ∨ 10000 < h.toInt64))) 2 12 := by
  refine cx_of (Qf := fun A => va_Ql (fun r (u' : rk_U) => ((-4000 ≤ t.toInt64 ∧ t.toInt64 ≤ 10000) ∧ (0 ≤ h.toInt64 ∧ h.toInt64 ≤ 10000)) ∧ r = fn_r (61094 * h.toInt64) (rk_raise (141 * t.toInt64) (8 * (24304 + t.toInt64)) u) / 1000) (ct_B (S := rk_U) (dC, dI) cl9 (fun _ : rk_U => [(cL, .long)]) A (fun u' : rk_U => fw_w fx sd tb tc ad cL u')) A) (Xf := cx_XC (dC, dI) cl9 [(cL, .long)] (fw_w fx sd tb tc ad cL u) (fun E => E = "java/lang/IllegalArgumentException" ∧ ((t.toInt64 < -4000 ∨ 10000 < t.toInt64) ∨ (h.toInt64 < 0 ∨ 10000 < h.toInt64)))) (cc := b_F_damp) (maxL := 3) (ret := ((some .long))) (by decide) rfl (Nat.le_of_ble_eq_true rfl) ?_
  intro p e s m below meth c A ls hF hno hA hP hK hD hG hS hl
  obtain ⟨hx, hb, hr, hml, hts, hown, hlocks, hnm⟩ := id hF
  have hown : s.vm.findClass R_F = some m.cls := hown
  have ha : ∀ w ∈ al_F, w.before [.ref fx, .int t, .int h].toArray s = true := fun w h => hts w (List.mem_cons_of_mem _ h)
  have hl : lv_has ls 3 [(0, .ref fx), (1, .int t), (2, .int h)] := hl
  refine lv_iload_n hx hb d_F_damp_0 rfl (lv_at hl 1 rfl) ?_
  refine lv_i2l hx hb d_F_damp_1 rfl ?_
  refine lv_ldc2 (v := (-4000)) hx hb hown (ha _ wm_F_66) d_F_damp_2 ?_
  refine lv_ldc2 (v := 10000) hx hb hown (ha _ wm_F_67) d_F_damp_5 ?_
  refine cx_callv (vx_runS (As := [.long ((t : Int32).toInt64), .long (-4000), .long 10000]) (rest := []) ⟨hx, hb, hml, hown, ha⟩ (c_F_demandWithin l hst dC dI ((t : Int32).toInt64) (-4000) 10000 s1 s2 s3 s4 _) (va_cwS 3 ha g_F_F_demandWithin rfl rfl rfl (by decide +kernel) ⟨Nat.le_of_ble_eq_true rfl, Nat.le_of_ble_eq_true rfl⟩) (ct_pre (xg_Gok s1 s2 s3 s4) hG.1 hK hP hD hS hA [] rfl (by decide) [] rfl) rfl rfl hl.1 rfl (lv_room (Nat.le_of_ble_eq_true rfl)) d_F_damp_8 ⟨Nat.le_of_ble_eq_true rfl, Nat.le_of_ble_eq_true rfl⟩) hP hD hS hA [] rfl (by decide) (fun _ => rfl) (fun E ce q9 H locs hE hP hS hcell hv hcl => cx_out hno hlocks ⟨hE.1, Or.inl hE.2⟩ hP hK hD hS hcell hv hcl (Nat.le_of_ble_eq_true rfl) (Nat.le_of_ble_eq_true rfl)) (fun u7 H locs hq hP hD hS => ?_)
  obtain ⟨hP, hD⟩ : va_P (dC, dI) cl9 (fw_w fx sd tb tc ad cL u) H ∧ va_D A (fw_w fx sd tb tc ad cL u) := ct_eqP (ct_sets_nil _ _) hP hD
  refine lv_iload_n hx hb d_F_damp_11 rfl (lv_at hl 2 rfl) ?_
  refine lv_i2l hx hb d_F_damp_12 rfl ?_
  refine lv_lconst (v := 0) hx hb d_F_damp_13 (by decide) ?_
  refine lv_ldc2 (v := 10000) hx hb hown (ha _ wm_F_67) d_F_damp_14 ?_
  refine cx_callv (vx_runS (As := [.long ((h : Int32).toInt64), .long 0, .long 10000]) (rest := []) ⟨hx, hb, hml, hown, ha⟩ (c_F_demandWithin l hst dC dI ((h : Int32).toInt64) 0 10000 s1 s2 s3 s4 _) (va_cwS 3 ha g_F_F_demandWithin rfl rfl rfl (by decide +kernel) ⟨Nat.le_of_ble_eq_true rfl, Nat.le_of_ble_eq_true rfl⟩) (ct_pre (xg_Gok s1 s2 s3 s4) hG.1 hK hP hD hS hA [] rfl (by decide) [] rfl) rfl rfl hl.1 rfl (lv_room (Nat.le_of_ble_eq_true rfl)) d_F_damp_17 ⟨Nat.le_of_ble_eq_true rfl, Nat.le_of_ble_eq_true rfl⟩) hP hD hS hA [] rfl (by decide) (fun _ => rfl) (fun E ce q9 H locs hE hP hS hcell hv hcl => cx_out hno hlocks ⟨hE.1, Or.inr hE.2⟩ hP hK hD hS hcell hv hcl (Nat.le_of_ble_eq_true rfl) (Nat.le_of_ble_eq_true rfl)) (fun u7 H locs hq2 hP hD hS => ?_)
  obtain ⟨hP, hD⟩ : va_P (dC, dI) cl9 (fw_w fx sd tb tc ad cL u) H ∧ va_D A (fw_w fx sd tb tc ad cL u) := ct_eqP (ct_sets_nil _ _) hP hD
  refine lv_aload_n hx hb d_F_damp_20 rfl (lv_at hl 0 rfl) ?_
  refine va_get (D := (dC, dI)) (ci := 3) (v := .ref (ad 0)) (C := R_F) (T := F_F) (N := 4) hx hb ha ui_F hown hK hP 0 rfl rfl 3 (by decide) (ha _ wm_F_10) (fun _ h9 => h9) rfl d_F_damp_21 ?_
  refine lv_ldc2 (v := 141) hx hb hown (ha _ wm_F_68) d_F_damp_24 ?_
  refine lv_iload_n hx hb d_F_damp_27 rfl (lv_at hl 1 rfl) ?_
  refine lv_i2l hx hb d_F_damp_28 rfl ?_
  refine lv_lmul hx hb d_F_damp_29 ?_
  refine lv_ldc2 (v := 8) hx hb hown (ha _ wm_F_69) d_F_damp_30 ?_
  refine lv_ldc2 (v := 24304) hx hb hown (ha _ wm_F_70) d_F_damp_33 ?_
  refine lv_iload_n hx hb d_F_damp_36 rfl (lv_at hl 1 rfl) ?_
  refine lv_i2l hx hb d_F_damp_37 rfl ?_
  refine lv_ladd hx hb d_F_damp_38 ?_
  refine lv_lmul hx hb d_F_damp_39 ?_
  refine cs_callv (va_runV (As := [.long (141 * ((t : Int32).toInt64)), .long (8 * (24304 + ((t : Int32).toInt64)))]) (rest := []) ⟨hx, hb, hml, hown, ha⟩ (c_K_raiseE l dC dI ad cL u (141 * t.toInt64) (8 * (24304 + t.toInt64)) _) (cwV 2 ha g_F_K_raiseE rfl rfl rfl (by decide +kernel) ⟨Nat.le_of_ble_eq_true rfl, Nat.le_of_ble_eq_true rfl⟩) (ct_preV ct_G0ok trivial hK hP hD hS hA [1, 2, 3, 4, 5, 6, 7, 8, 9, 10, 11, 12, 13, 14, 15, 16] rfl (by decide) [0] rfl 1 1 rfl rfl rfl) rfl rfl hl.1 rfl (lv_room (Nat.le_of_ble_eq_true rfl)) d_F_damp_40 ⟨Nat.le_of_ble_eq_true rfl, Nat.le_of_ble_eq_true rfl⟩) hP hD hS hA [1, 2, 3, 4, 5, 6, 7, 8, 9, 10, 11, 12, 13, 14, 15, 16] rfl (by decide) (fun _ => rfl) (fun u_1 H locs hu_1 hP hD hS => ?_)
  obtain ⟨hP, hD⟩ : va_P (dC, dI) cl9 (fw_w fx sd tb tc ad cL u_1) H ∧ va_D A (fw_w fx sd tb tc ad cL u_1) := ct_eqP (fkwA fx sd tb tc ad cL u _) hP hD
  refine lv_aload_n hx hb d_F_damp_43 rfl (lv_at hl 0 rfl) ?_
  refine va_get (D := (dC, dI)) (ci := 3) (v := .ref (ad 0)) (C := R_F) (T := F_F) (N := 4) hx hb ha ui_F hown hK hP 0 rfl rfl 3 (by decide) (ha _ wm_F_10) (fun _ h9 => h9) rfl d_F_damp_44 ?_
  refine lv_ldc2 (v := 61094) hx hb hown (ha _ wm_F_71) d_F_damp_47 ?_
  refine lv_iload_n hx hb d_F_damp_50 rfl (lv_at hl 2 rfl) ?_
  refine lv_i2l hx hb d_F_damp_51 rfl ?_
  refine lv_lmul hx hb d_F_damp_52 ?_
  refine cs_calll (va_runV (As := [.long (61094 * ((h : Int32).toInt64))]) (rest := []) ⟨hx, hb, hml, hown, ha⟩ (c_K_floorTimes l dC dI ad cL u_1 (61094 * ((h : Int32).toInt64)) _) (cwV 1 ha g_F_K_floorTimes rfl rfl rfl (by decide +kernel) ⟨Nat.le_of_ble_eq_true rfl, Nat.le_of_ble_eq_true rfl⟩) (ct_preV ct_G0ok trivial hK hP hD hS hA [1, 2, 3, 4, 5, 6, 7, 8, 9, 10, 11, 12, 13, 14, 15, 16] rfl (by decide) [0] rfl 1 1 rfl rfl rfl) rfl rfl hl.1 rfl (lv_room (Nat.le_of_ble_eq_true rfl)) d_F_damp_53 ⟨Nat.le_of_ble_eq_true rfl, Nat.le_of_ble_eq_true rfl⟩) hP hD hS hA [1, 2, 3, 4, 5, 6, 7, 8, 9, 10, 11, 12, 13, 14, 15, 16] rfl (by decide) (fun _ => rfl) (fun r_4 u_3 H locs hu_3 hP hD hS => ?_)
  obtain ⟨hu_3, hr_4⟩ := hu_3
  obtain ⟨hP, hD⟩ : va_P (dC, dI) cl9 (fw_w fx sd tb tc ad cL u_3) H ∧ va_D A (fw_w fx sd tb tc ad cL u_3) := ct_eqP (fkwA fx sd tb tc ad cL u_1 _) hP hD
  refine lv_ldc2 (v := 1000) hx hb hown (ha _ wm_F_72) d_F_damp_56 ?_
  refine lv_ldiv hx hb d_F_damp_59 (by decide) ?_
  refine W.widen (k := 2) (n := 12) (Nat.le_of_ble_eq_true rfl) (Nat.le_of_ble_eq_true rfl) ?_
  exact vx_ret (ct_lret hF d_F_damp_60 u_3 (by subst hr_4; subst hu_3; subst hu_1; exact ⟨⟨hq, hq2⟩, rfl⟩) hP hD hK hS)
set_option maxHeartbeats 1000000 in
set_option maxRecDepth 100000 in
/-- the root of kind k of v millionths, in billionths -/
theorem c_F_root (l : Launch) (hst : l.stackTraces = false) (dC : Nat → ClassId) (dI : Nat → Nat → Nat) (fx : Nat) (sd : Int64) (tb tc : Nat) (ad : Nat → Nat) (cL : ClassId) (u : rk_U) (s1 s2 s3 s4 tl th ta : Nat) (v : Int64) (k : Int32) (sz : Nat) : cx_L l y_F_root w_F_root { frames := 7, cells := 2, slots := 12, locals := 160 } (dC, dI) cl9 [(cL, .long)] (fg_G s1 s2 s3 s4 tl th ta) [.ref fx, .long v, .int k] (fw_w fx sd tb tc ad cL u) sz (S := rk_U) (fun r (u' : rk_U) => ((0 ≤ v ∧ v ≤ 1000000000000) ∧ (2 ≤ k.toInt64 ∧ k.toInt64 ≤ 5)) ∧ ∃ kn : Nat, (2 ≤ kn ∧ kn ≤ 5) ∧ k = nI kn ∧ r = (rk_root v kn u).1) (fun _ : rk_U => [(cL, .long)]) (fun u' : rk_U => fw_w fx sd tb tc ad cL u') (fun E => E = "java/lang/IllegalArgumentException" ∧ ((v < 0 ∨ 1000000000000 < v) ∨ (k.toInt64 < 2 ∨ 5 < k.toInt64))) 2 12 := by
  refine cx_of (Qf := fun A => va_Ql (fun r (u' : rk_U) => ((0 ≤ v ∧ v ≤ 1000000000000) ∧ (2 ≤ k.toInt64 ∧ k.toInt64 ≤ 5)) ∧ ∃ kn : Nat, (2 ≤ kn ∧ kn ≤ 5) ∧ k = nI kn ∧ r = (rk_root v kn u).1) (ct_B (S := rk_U) (dC, dI) cl9 (fun _ : rk_U => [(cL, .long)]) A (fun u' : rk_U => fw_w fx sd tb tc ad cL u')) A) (Xf := cx_XC (dC, dI) cl9 [(cL, .long)] (fw_w fx sd tb tc ad cL u) (fun E => E = "java/lang/IllegalArgumentException" ∧ ((v < 0 ∨ 1000000000000 < v) ∨ (k.toInt64 < 2 ∨ 5 < k.toInt64)))) (cc := b_F_root) (maxL := 4) (ret := ((some .long))) (by decide) rfl (Nat.le_of_ble_eq_true rfl) ?_
  intro p e s m below meth c A ls hF hno hA hP hK hD hG hS hl
  obtain ⟨hx, hb, hr, hml, hts, hown, hlocks, hnm⟩ := id hF
  have hown : s.vm.findClass R_F = some m.cls := hown
  have ha : ∀ w ∈ al_F, w.before [.ref fx, .long v, .int k].toArray s = true := fun w h => hts w (List.mem_cons_of_mem _ h)
  have hl : lv_has ls 4 [(0, .ref fx), (1, .long v), (3, .int k)] := hl
  refine lv_lload_n hx hb d_F_root_0 rfl (lv_at hl 1 rfl) ?_
  refine lv_lconst (v := 0) hx hb d_F_root_1 (by decide) ?_
  refine lv_ldc2 (v := 1000000000000) hx hb hown (ha _ wm_F_40) d_F_root_2 ?_
  refine cx_callv (vx_runS (As := [.long v, .long 0, .long 1000000000000]) (rest := []) ⟨hx, hb, hml, hown, ha⟩ (c_F_demandWithin l hst dC dI v 0 1000000000000 s1 s2 s3 s4 _) (va_cwS 3 ha g_F_F_demandWithin rfl rfl rfl (by decide +kernel) ⟨Nat.le_of_ble_eq_true rfl, Nat.le_of_ble_eq_true rfl⟩) (ct_pre (xg_Gok s1 s2 s3 s4) hG.1 hK hP hD hS hA [] rfl (by decide) [] rfl) rfl rfl hl.1 rfl (lv_room (Nat.le_of_ble_eq_true rfl)) d_F_root_5 ⟨Nat.le_of_ble_eq_true rfl, Nat.le_of_ble_eq_true rfl⟩) hP hD hS hA [] rfl (by decide) (fun _ => rfl) (fun E ce q9 H locs hE hP hS hcell hv hcl => cx_out hno hlocks ⟨hE.1, Or.inl hE.2⟩ hP hK hD hS hcell hv hcl (Nat.le_of_ble_eq_true rfl) (Nat.le_of_ble_eq_true rfl)) (fun u7 H locs hq hP hD hS => ?_)
  obtain ⟨hP, hD⟩ : va_P (dC, dI) cl9 (fw_w fx sd tb tc ad cL u) H ∧ va_D A (fw_w fx sd tb tc ad cL u) := ct_eqP (ct_sets_nil _ _) hP hD
  refine lv_iload_n hx hb d_F_root_8 rfl (lv_at hl 2 rfl) ?_
  refine lv_i2l hx hb d_F_root_9 rfl ?_
  refine lv_ldc2 (v := 2) hx hb hown (ha _ wm_F_60) d_F_root_10 ?_
  refine lv_ldc2 (v := 5) hx hb hown (ha _ wm_F_61) d_F_root_13 ?_
  refine cx_callv (vx_runS (As := [.long ((k : Int32).toInt64), .long 2, .long 5]) (rest := []) ⟨hx, hb, hml, hown, ha⟩ (c_F_demandWithin l hst dC dI ((k : Int32).toInt64) 2 5 s1 s2 s3 s4 _) (va_cwS 3 ha g_F_F_demandWithin rfl rfl rfl (by decide +kernel) ⟨Nat.le_of_ble_eq_true rfl, Nat.le_of_ble_eq_true rfl⟩) (ct_pre (xg_Gok s1 s2 s3 s4) hG.1 hK hP hD hS hA [] rfl (by decide) [] rfl) rfl rfl hl.1 rfl (lv_room (Nat.le_of_ble_eq_true rfl)) d_F_root_16 ⟨Nat.le_of_ble_eq_true rfl, Nat.le_of_ble_eq_true rfl⟩) hP hD hS hA [] rfl (by decide) (fun _ => rfl) (fun E ce q9 H locs hE hP hS hcell hv hcl => cx_out hno hlocks ⟨hE.1, Or.inr hE.2⟩ hP hK hD hS hcell hv hcl (Nat.le_of_ble_eq_true rfl) (Nat.le_of_ble_eq_true rfl)) (fun u7 H locs hq2 hP hD hS => ?_)
  obtain ⟨hP, hD⟩ : va_P (dC, dI) cl9 (fw_w fx sd tb tc ad cL u) H ∧ va_D A (fw_w fx sd tb tc ad cL u) := ct_eqP (ct_sets_nil _ _) hP hD
  obtain ⟨kn, hkn, rfl⟩ := rt_k hq2
  refine lv_aload_n hx hb d_F_root_19 rfl (lv_at hl 0 rfl) ?_
  refine va_get (D := (dC, dI)) (ci := 3) (v := .ref (ad 0)) (C := R_F) (T := F_F) (N := 4) hx hb ha ui_F hown hK hP 0 rfl rfl 3 (by decide) (ha _ wm_F_10) (fun _ h9 => h9) rfl d_F_root_20 ?_
  refine lv_lload_n hx hb d_F_root_23 rfl (lv_at hl 1 rfl) ?_
  refine lv_iload_n hx hb d_F_root_24 rfl (lv_at hl 2 rfl) ?_
  refine cs_calll (va_runV (As := [.long v, .int (nI kn)]) (rest := []) ⟨hx, hb, hml, hown, ha⟩ (c_K_floorOfRoot l dC dI ad cL u v kn (by omega) _) (cwV 2 ha g_F_K_floorOfRoot rfl rfl rfl (by decide +kernel) ⟨Nat.le_of_ble_eq_true rfl, Nat.le_of_ble_eq_true rfl⟩) (ct_preV ct_G0ok trivial hK hP hD hS hA [1, 2, 3, 4, 5, 6, 7, 8, 9, 10, 11, 12, 13, 14, 15, 16] rfl (by decide) [0] rfl 1 1 rfl rfl rfl) rfl rfl hl.1 rfl (lv_room (Nat.le_of_ble_eq_true rfl)) d_F_root_25 ⟨Nat.le_of_ble_eq_true rfl, Nat.le_of_ble_eq_true rfl⟩) hP hD hS hA [1, 2, 3, 4, 5, 6, 7, 8, 9, 10, 11, 12, 13, 14, 15, 16] rfl (by decide) (fun _ => rfl) (fun r_2 u_1 H locs hu_1 hP hD hS => ?_)
  obtain ⟨hr_2, hu_1⟩ := hu_1
  obtain ⟨hP, hD⟩ : va_P (dC, dI) cl9 (fw_w fx sd tb tc ad cL u_1) H ∧ va_D A (fw_w fx sd tb tc ad cL u_1) := ct_eqP (fkwA fx sd tb tc ad cL u _) hP hD
  refine W.widen (k := 2) (n := 12) (Nat.le_of_ble_eq_true rfl) (Nat.le_of_ble_eq_true rfl) ?_
  exact vx_ret (ct_lret hF d_F_root_28 u_1 ⟨⟨hq, hq2⟩, kn, hkn, rfl, hr_2⟩ hP hD hK hS)
