theorem sf_ne {x : Int64} (h : 0 < x) : ¬ 2 * x = 0 := by
  intro q
  have h0 : (2 * x).toInt = 0 := by rw [q]; rfl
  rw [Int64.toInt_mul, show (2 : Int64).toInt = 2 from rfl] at h0
  rw [Int64.lt_iff_toInt_lt, show (0 : Int64).toInt = 0 from rfl] at h
  have h1 : x.toInt < 2 ^ 63 := Int64.toInt_lt x
  rw [Int.bmod_def] at h0
  split at h0 <;> omega
def fa_n (le mo : Int64) : Int64 := (8 * le + mo) / (2 * mo)
def fa_a (le mo : Int64) : Int64 := 4 * le - fa_n le mo * mo
def fa_b (le mo : Int64) : Int64 := 4 * mo + fa_n le mo * le
def rk_fl1 (ab : Int64) (u : rk_U) : rk_U := if 0 ≤ ab then u else rk_neg 0 u
def rk_flat (le mo : Int64) (u : rk_U) : rk_U := if 0 < mo then rk_add 0 3 (rk_lim 3 kc_A 35 ((fa_n le mo).toInt32 * 7) (rk_fl1 (fa_a le mo) (rk_odd 1 (rk_ratio 0 (pu_abl (fa_a le mo)) (fa_b le mo) u)))) else rk_load 0 0 u
set_option maxHeartbeats 1000000 in
set_option maxRecDepth 100000 in
/-- the angle whose tangent is le / mo -/
theorem c_K_setFlatAngle (l : Launch) (dC : Nat → ClassId) (dI : Nat → Nat → Nat) (ad : Nat → Nat) (cL : ClassId) (u : rk_U) (le mo : Int64) (tl th ta : Nat) (sz : Nat) : ct_V l y_K_setFlatAngle w_K_setFlatAngle { frames := 4, cells := 0, slots := 0, locals := 99 } (dC, dI) cl9 [(cL, .long)] (kg_G tl th ta) [.ref (ad 0), .long le, .long mo] (rk_w ad cL u) sz (S := rk_U) (fun u' : rk_U => u' = rk_flat le mo u) (fun _ : rk_U => [(cL, .long)]) (fun u' : rk_U => rk_w ad cL u') 0 0 := by
  refine ct_of (Qf := fun A => va_Qv (fun u' : rk_U => u' = rk_flat le mo u) (ct_B (S := rk_U) (dC, dI) cl9 (fun _ : rk_U => [(cL, .long)]) A (fun u' : rk_U => rk_w ad cL u')) A) (cc := b_K_setFlatAngle) (maxL := 11) (ret := none) (by decide) rfl (Nat.le_of_ble_eq_true rfl) ?_
  intro p e s m below meth c A ls hF hA hP hK hD hG hS hl
  obtain ⟨hx, hb, hr, hml, hts, hown, hlocks, hnm⟩ := id hF
  have hown : s.vm.findClass R_K = some m.cls := hown
  have ha : ∀ w ∈ al_K, w.before [.ref (ad 0), .long le, .long mo].toArray s = true := fun w h => hts w (List.mem_cons_of_mem _ h)
  have hl : lv_has ls 11 [(0, .ref (ad 0)), (1, .long le), (3, .long mo)] := hl
  refine lv_lload_n hx hb d_K_setFlatAngle_0 rfl (lv_at hl 2 rfl) ?_
  refine lv_lconst (v := 0) hx hb d_K_setFlatAngle_1 (by decide) ?_
  refine ct_jgt (tgt := 15) hx hb d_K_setFlatAngle_2 d_K_setFlatAngle_3 (by decide) (fun h0 => ?_) (fun h0 => ?_)
  · refine lv_ldc2 (v := 8) hx hb hown (ha _ wm_K_66) d_K_setFlatAngle_15 ?_
    refine lv_lload_n hx hb d_K_setFlatAngle_18 rfl (lv_at hl 1 rfl) ?_
    refine lv_lmul hx hb d_K_setFlatAngle_19 ?_
    refine lv_lload_n hx hb d_K_setFlatAngle_20 rfl (lv_at hl 2 rfl) ?_
    refine lv_ladd hx hb d_K_setFlatAngle_21 ?_
    refine lv_ldc2 (v := 2) hx hb hown (ha _ wm_K_35) d_K_setFlatAngle_22 ?_
    refine lv_lload_n hx hb d_K_setFlatAngle_25 rfl (lv_at hl 2 rfl) ?_
    refine lv_lmul hx hb d_K_setFlatAngle_26 ?_
    refine lv_ldiv hx hb d_K_setFlatAngle_27 (sf_ne h0) ?_
    refine lv_lstore (lv' := [(5, .long (((8 * le) + mo) / (2 * mo))), (0, .ref (ad 0)), (1, .long le), (3, .long mo)]) hx hb d_K_setFlatAngle_28 hl (by decide) rfl (fun ls hl => ?_)
    refine lv_ldc2 (v := 4) hx hb hown (ha _ wm_K_67) d_K_setFlatAngle_30 ?_
    refine lv_lload_n hx hb d_K_setFlatAngle_33 rfl (lv_at hl 2 rfl) ?_
    refine lv_lmul hx hb d_K_setFlatAngle_34 ?_
    refine lv_lload hx hb d_K_setFlatAngle_35 (lv_at hl 0 rfl) ?_
    refine lv_lload_n hx hb d_K_setFlatAngle_37 rfl (lv_at hl 3 rfl) ?_
    refine lv_lmul hx hb d_K_setFlatAngle_38 ?_
    refine lv_lsub hx hb d_K_setFlatAngle_39 ?_
    refine lv_lstore (lv' := [(7, .long ((4 * le) - ((((8 * le) + mo) / (2 * mo)) * mo))), (5, .long (((8 * le) + mo) / (2 * mo))), (0, .ref (ad 0)), (1, .long le), (3, .long mo)]) hx hb d_K_setFlatAngle_40 hl (by decide) rfl (fun ls hl => ?_)
    refine lv_ldc2 (v := 4) hx hb hown (ha _ wm_K_67) d_K_setFlatAngle_42 ?_
    refine lv_lload_n hx hb d_K_setFlatAngle_45 rfl (lv_at hl 4 rfl) ?_
    refine lv_lmul hx hb d_K_setFlatAngle_46 ?_
    refine lv_lload hx hb d_K_setFlatAngle_47 (lv_at hl 1 rfl) ?_
    refine lv_lload_n hx hb d_K_setFlatAngle_49 rfl (lv_at hl 3 rfl) ?_
    refine lv_lmul hx hb d_K_setFlatAngle_50 ?_
    refine lv_ladd hx hb d_K_setFlatAngle_51 ?_
    refine lv_lstore (lv' := [(9, .long ((4 * mo) + ((((8 * le) + mo) / (2 * mo)) * le))), (7, .long ((4 * le) - ((((8 * le) + mo) / (2 * mo)) * mo))), (5, .long (((8 * le) + mo) / (2 * mo))), (0, .ref (ad 0)), (1, .long le), (3, .long mo)]) hx hb d_K_setFlatAngle_52 hl (by decide) rfl (fun ls hl => ?_)
    have hl : lv_has ls 11 [(0, .ref (ad 0)), (1, .long le), (3, .long mo), (5, .long (fa_n le mo)), (7, .long (fa_a le mo)), (9, .long (fa_b le mo))] := lv_sub hl [3, 4, 5, 2, 1, 0] rfl
    refine lv_aload_n hx hb d_K_setFlatAngle_54 rfl (lv_at hl 0 rfl) ?_
    refine va_get (D := (dC, dI)) (ci := 1) (v := .ref (ad 1)) (C := R_K) (T := F_K) (N := 5) hx hb ha ui_K hown hK hP 0 rfl rfl 0 (by decide) (ha _ wm_K_6) (fun _ h9 => h9) rfl d_K_setFlatAngle_55 ?_
    refine lv_lload hx hb d_K_setFlatAngle_58 (lv_at hl 4 rfl) ?_
    refine cs_calll (va_runS (As := [.long (fa_a le mo)]) (rest := [.ref (ad 1)]) ⟨hx, hb, hml, hown, ha⟩ (c_absL l dC dI (fa_a le mo) _) (va_cwS 1 ha g_K_Math_abs_JJ rfl rfl rfl (by decide +kernel) ⟨Nat.le_of_ble_eq_true rfl, Nat.le_of_ble_eq_true rfl⟩) (ct_pre ct_G0ok trivial hK hP hD hS hA [] rfl (by decide) [] rfl) rfl rfl hl.1 rfl (lv_room (Nat.le_of_ble_eq_true rfl)) d_K_setFlatAngle_60 ⟨Nat.le_of_ble_eq_true rfl, Nat.le_of_ble_eq_true rfl⟩) hP hD hS hA [] rfl (by decide) (fun _ => rfl) (fun r9 u7 H locs hw hP hD hS => ?_)
    subst hw
    obtain ⟨hP, hD⟩ : va_P (dC, dI) cl9 (rk_w ad cL u) H ∧ va_D A (rk_w ad cL u) := ct_eqP (ct_sets_nil _ _) hP hD
    refine lv_lload hx hb d_K_setFlatAngle_63 (lv_at hl 5 rfl) ?_
    refine cs_callv (va_runV (As := [.long (pu_abl (fa_a le mo)), .long (fa_b le mo)]) (rest := []) ⟨hx, hb, hml, hown, ha⟩ (c_W_loadRatio l dC dI (ad 1) (ad 2) (ad 3) cL (u 0) (pu_abl (fa_a le mo)) (fa_b le mo) _) (cwV 2 ha g_K_W_loadRatio rfl rfl rfl (by decide +kernel) ⟨Nat.le_of_ble_eq_true rfl, Nat.le_of_ble_eq_true rfl⟩) (ct_preV ct_G0ok trivial hK hP hD hS hA [1, 2] rfl (by decide) [0] rfl 1 0 rfl rfl rfl) rfl rfl hl.1 rfl (lv_room (Nat.le_of_ble_eq_true rfl)) d_K_setFlatAngle_65 ⟨Nat.le_of_ble_eq_true rfl, Nat.le_of_ble_eq_true rfl⟩) hP hD hS hA [1, 2] rfl (by decide) (fun _ => rfl) (fun u7 H locs hw hP hD hS => ?_)
    obtain rfl : u7 = _ := hw.trans (ir_eq _).symm
    obtain ⟨hP, hD⟩ : va_P (dC, dI) cl9 (rk_w ad cL (rk_ratio 0 (pu_abl (fa_a le mo)) (fa_b le mo) u)) H ∧ va_D A (rk_w ad cL (rk_ratio 0 (pu_abl (fa_a le mo)) (fa_b le mo) u)) := ct_eqP (rkw1_0 ad cL u _) hP hD
    refine lv_aload_n hx hb d_K_setFlatAngle_68 rfl (lv_at hl 0 rfl) ?_
    refine lv_iconst (v := 1) hx hb d_K_setFlatAngle_69 (by decide) ?_
    refine cs_callv (va_runV (As := [.int 1]) (rest := []) ⟨hx, hb, hml, hown, ha⟩ (c_K_sumOddPowers l dC dI ad cL (rk_ratio 0 (pu_abl (fa_a le mo)) (fa_b le mo) u) 1 _) (cwV 1 ha g_K_K_sumOddPowers rfl rfl rfl (by decide +kernel) ⟨Nat.le_of_ble_eq_true rfl, Nat.le_of_ble_eq_true rfl⟩) (ct_preV ct_G0ok trivial hK hP hD hS hA [0, 1, 2, 3, 4, 5, 6, 7, 8, 9, 10, 11, 12, 13, 14, 15] rfl (by decide) [0] rfl 0 1 rfl rfl rfl) rfl rfl hl.1 rfl (lv_room (Nat.le_of_ble_eq_true rfl)) d_K_setFlatAngle_70 ⟨Nat.le_of_ble_eq_true rfl, Nat.le_of_ble_eq_true rfl⟩) hP hD hS hA [0, 1, 2, 3, 4, 5, 6, 7, 8, 9, 10, 11, 12, 13, 14, 15] rfl (by decide) (fun _ => rfl) (fun u7 H locs hw hP hD hS => ?_)
    subst hw
    obtain ⟨hP, hD⟩ : va_P (dC, dI) cl9 (rk_w ad cL (rk_odd 1 (rk_ratio 0 (pu_abl (fa_a le mo)) (fa_b le mo) u))) H ∧ va_D A (rk_w ad cL (rk_odd 1 (rk_ratio 0 (pu_abl (fa_a le mo)) (fa_b le mo) u))) := ct_eqP (rkwA ad cL (rk_ratio 0 (pu_abl (fa_a le mo)) (fa_b le mo) u) _) hP hD
    generalize hg_u_1 : rk_odd 1 (rk_ratio 0 (pu_abl (fa_a le mo)) (fa_b le mo) u) = u_1 at hP hD
    refine lv_lload hx hb d_K_setFlatAngle_73 (lv_at hl 4 rfl) ?_
    refine lv_lconst (v := 0) hx hb d_K_setFlatAngle_75 (by decide) ?_
    refine ct_jge (tgt := 87) hx hb d_K_setFlatAngle_76 d_K_setFlatAngle_77 (by decide) (fun h1 => ?_) (fun h1 => ?_)
    · refine lv_aload_n hx hb d_K_setFlatAngle_87 rfl (lv_at hl 0 rfl) ?_
      refine va_get (D := (dC, dI)) (ci := 1) (v := .ref (ad 10)) (C := R_K) (T := F_K) (N := 5) hx hb ha ui_K hown hK hP 0 rfl rfl 3 (by decide) (ha _ wm_K_9) (fun _ h9 => h9) rfl d_K_setFlatAngle_88 ?_
      refine va_gets (C := "HouseFunctions$Reckoner") (n := "ANGLES_BY_QUARTER_TANGENT") (d := "[J") (v := .ref ta) hx hb hG.2.2.1 hS hown (ha _ wm_K_68) (fun _ h9 => h9) d_K_setFlatAngle_91 ?_
      refine lv_lload hx hb d_K_setFlatAngle_94 (lv_at hl 3 rfl) ?_
      refine lv_l2i hx hb d_K_setFlatAngle_96 rfl ?_
      refine lv_bipush (v := 7) hx hb d_K_setFlatAngle_97 (by decide) ?_
      refine lv_imul hx hb d_K_setFlatAngle_99 ?_
      refine cs_callv (va_runV (As := [.ref ta, .int ((((fa_n le mo) : Int64).toInt32) * 7)]) (rest := []) ⟨hx, hb, hml, hown, ha⟩ (c_W_loadLimbs l dC dI (ad 10) (ad 11) (ad 12) cL (u_1 6) ta 35 (by omega) kc_A ((((fa_n le mo) : Int64).toInt32) * 7) _) (cwV 2 ha g_K_W_loadLimbs rfl rfl rfl (by decide +kernel) ⟨Nat.le_of_ble_eq_true rfl, Nat.le_of_ble_eq_true rfl⟩) (ct_preV (ld_Gok ta 35 kc_A) hG.2.2.2 hK hP hD hS hA [10, 11] rfl (by decide) [0] rfl 10 0 rfl rfl rfl) rfl rfl hl.1 rfl (lv_room (Nat.le_of_ble_eq_true rfl)) d_K_setFlatAngle_100 ⟨Nat.le_of_ble_eq_true rfl, Nat.le_of_ble_eq_true rfl⟩) hP hD hS hA [10, 11] rfl (by decide) (fun _ => rfl) (fun u7 H locs hw hP hD hS => ?_)
      obtain rfl : u7 = _ := hw.trans (ir_eq _).symm
      obtain ⟨hP, hD⟩ : va_P (dC, dI) cl9 (rk_w ad cL (rk_lim 3 kc_A 35 ((((fa_n le mo) : Int64).toInt32) * 7) u_1)) H ∧ va_D A (rk_w ad cL (rk_lim 3 kc_A 35 ((((fa_n le mo) : Int64).toInt32) * 7) u_1)) := ct_eqP (rkw1_3 ad cL u_1 _) hP hD
      refine lv_aload_n hx hb d_K_setFlatAngle_103 rfl (lv_at hl 0 rfl) ?_
      refine va_get (D := (dC, dI)) (ci := 1) (v := .ref (ad 1)) (C := R_K) (T := F_K) (N := 5) hx hb ha ui_K hown hK hP 0 rfl rfl 0 (by decide) (ha _ wm_K_6) (fun _ h9 => h9) rfl d_K_setFlatAngle_104 ?_
      refine lv_aload_n hx hb d_K_setFlatAngle_107 rfl (lv_at hl 0 rfl) ?_
      refine va_get (D := (dC, dI)) (ci := 1) (v := .ref (ad 10)) (C := R_K) (T := F_K) (N := 5) hx hb ha ui_K hown hK hP 0 rfl rfl 3 (by decide) (ha _ wm_K_9) (fun _ h9 => h9) rfl d_K_setFlatAngle_108 ?_
      refine cs_callv (va_runV (As := [.ref (ad 10)]) (rest := []) ⟨hx, hb, hml, hown, ha⟩ (c_W_add l dC dI (ad 1) (ad 2) (ad 3) (ad 10) (ad 11) (ad 12) cL ((rk_lim 3 kc_A 35 ((((fa_n le mo) : Int64).toInt32) * 7) u_1) 0) ((rk_lim 3 kc_A 35 ((((fa_n le mo) : Int64).toInt32) * 7) u_1) 6) _) (cwV 1 ha g_K_W_add rfl rfl rfl (by decide +kernel) ⟨Nat.le_of_ble_eq_true rfl, Nat.le_of_ble_eq_true rfl⟩) (ct_preV ct_G0ok trivial hK hP hD hS hA [1, 2, 10, 11] rfl (by decide) [0] rfl 1 0 rfl rfl rfl) rfl rfl hl.1 rfl (lv_room (Nat.le_of_ble_eq_true rfl)) d_K_setFlatAngle_111 ⟨Nat.le_of_ble_eq_true rfl, Nat.le_of_ble_eq_true rfl⟩) hP hD hS hA [1, 2, 10, 11] rfl (by decide) (fun _ => rfl) (fun u7 H locs hw hP hD hS => ?_)
      obtain rfl : u7 = _ := hw.trans (ir_eq _).symm
      obtain ⟨hP, hD⟩ : va_P (dC, dI) cl9 (rk_w ad cL (rk_add 0 3 (rk_lim 3 kc_A 35 ((((fa_n le mo) : Int64).toInt32) * 7) u_1))) H ∧ va_D A (rk_w ad cL (rk_add 0 3 (rk_lim 3 kc_A 35 ((((fa_n le mo) : Int64).toInt32) * 7) u_1))) := ct_eqP (rkw2_0_3 ad cL (rk_lim 3 kc_A 35 ((((fa_n le mo) : Int64).toInt32) * 7) u_1) _) hP hD
      exact ct_vret hF d_K_setFlatAngle_114 (rk_add 0 3 (rk_lim 3 kc_A 35 ((((fa_n le mo) : Int64).toInt32) * 7) u_1)) (by subst hg_u_1; unfold rk_flat rk_fl1; rw [if_pos h0, if_pos h1]) hP hD hK hS
    · refine lv_aload_n hx hb d_K_setFlatAngle_80 rfl (lv_at hl 0 rfl) ?_
      refine va_get (D := (dC, dI)) (ci := 1) (v := .ref (ad 1)) (C := R_K) (T := F_K) (N := 5) hx hb ha ui_K hown hK hP 0 rfl rfl 0 (by decide) (ha _ wm_K_6) (fun _ h9 => h9) rfl d_K_setFlatAngle_81 ?_
      refine cs_callv (va_runV (As := []) (rest := []) ⟨hx, hb, hml, hown, ha⟩ (c_W_negate l dC dI (ad 1) (ad 2) (ad 3) cL (u_1 0) _) (cwV 0 ha g_K_W_negate rfl rfl rfl (by decide +kernel) ⟨Nat.le_of_ble_eq_true rfl, Nat.le_of_ble_eq_true rfl⟩) (ct_preV ct_G0ok trivial hK hP hD hS hA [1, 2] rfl (by decide) [0] rfl 1 0 rfl rfl rfl) rfl rfl hl.1 rfl (lv_room (Nat.le_of_ble_eq_true rfl)) d_K_setFlatAngle_84 ⟨Nat.le_of_ble_eq_true rfl, Nat.le_of_ble_eq_true rfl⟩) hP hD hS hA [1, 2] rfl (by decide) (fun _ => rfl) (fun u7 H locs hw hP hD hS => ?_)
      obtain rfl : u7 = _ := hw.trans (ir_eq _).symm
      obtain ⟨hP, hD⟩ : va_P (dC, dI) cl9 (rk_w ad cL (rk_neg 0 u_1)) H ∧ va_D A (rk_w ad cL (rk_neg 0 u_1)) := ct_eqP (rkw1_0 ad cL u_1 _) hP hD
      refine lv_aload_n hx hb d_K_setFlatAngle_87 rfl (lv_at hl 0 rfl) ?_
      refine va_get (D := (dC, dI)) (ci := 1) (v := .ref (ad 10)) (C := R_K) (T := F_K) (N := 5) hx hb ha ui_K hown hK hP 0 rfl rfl 3 (by decide) (ha _ wm_K_9) (fun _ h9 => h9) rfl d_K_setFlatAngle_88 ?_
      refine va_gets (C := "HouseFunctions$Reckoner") (n := "ANGLES_BY_QUARTER_TANGENT") (d := "[J") (v := .ref ta) hx hb hG.2.2.1 hS hown (ha _ wm_K_68) (fun _ h9 => h9) d_K_setFlatAngle_91 ?_
      refine lv_lload hx hb d_K_setFlatAngle_94 (lv_at hl 3 rfl) ?_
      refine lv_l2i hx hb d_K_setFlatAngle_96 rfl ?_
      refine lv_bipush (v := 7) hx hb d_K_setFlatAngle_97 (by decide) ?_
      refine lv_imul hx hb d_K_setFlatAngle_99 ?_
      refine cs_callv (va_runV (As := [.ref ta, .int ((((fa_n le mo) : Int64).toInt32) * 7)]) (rest := []) ⟨hx, hb, hml, hown, ha⟩ (c_W_loadLimbs l dC dI (ad 10) (ad 11) (ad 12) cL ((rk_neg 0 u_1) 6) ta 35 (by omega) kc_A ((((fa_n le mo) : Int64).toInt32) * 7) _) (cwV 2 ha g_K_W_loadLimbs rfl rfl rfl (by decide +kernel) ⟨Nat.le_of_ble_eq_true rfl, Nat.le_of_ble_eq_true rfl⟩) (ct_preV (ld_Gok ta 35 kc_A) hG.2.2.2 hK hP hD hS hA [10, 11] rfl (by decide) [0] rfl 10 0 rfl rfl rfl) rfl rfl hl.1 rfl (lv_room (Nat.le_of_ble_eq_true rfl)) d_K_setFlatAngle_100 ⟨Nat.le_of_ble_eq_true rfl, Nat.le_of_ble_eq_true rfl⟩) hP hD hS hA [10, 11] rfl (by decide) (fun _ => rfl) (fun u7 H locs hw hP hD hS => ?_)
      obtain rfl : u7 = _ := hw.trans (ir_eq _).symm
      obtain ⟨hP, hD⟩ : va_P (dC, dI) cl9 (rk_w ad cL (rk_lim 3 kc_A 35 ((((fa_n le mo) : Int64).toInt32) * 7) (rk_neg 0 u_1))) H ∧ va_D A (rk_w ad cL (rk_lim 3 kc_A 35 ((((fa_n le mo) : Int64).toInt32) * 7) (rk_neg 0 u_1))) := ct_eqP (rkw1_3 ad cL (rk_neg 0 u_1) _) hP hD
      refine lv_aload_n hx hb d_K_setFlatAngle_103 rfl (lv_at hl 0 rfl) ?_
      refine va_get (D := (dC, dI)) (ci := 1) (v := .ref (ad 1)) (C := R_K) (T := F_K) (N := 5) hx hb ha ui_K hown hK hP 0 rfl rfl 0 (by decide) (ha _ wm_K_6) (fun _ h9 => h9) rfl d_K_setFlatAngle_104 ?_
      refine lv_aload_n hx hb d_K_setFlatAngle_107 rfl (lv_at hl 0 rfl) ?_
      refine va_get (D := (dC, dI)) (ci := 1) (v := .ref (ad 10)) (C := R_K) (T := F_K) (N := 5) hx hb ha ui_K hown hK hP 0 rfl rfl 3 (by decide) (ha _ wm_K_9) (fun _ h9 => h9) rfl d_K_setFlatAngle_108 ?_
      refine cs_callv (va_runV (As := [.ref (ad 10)]) (rest := []) ⟨hx, hb, hml, hown, ha⟩ (c_W_add l dC dI (ad 1) (ad 2) (ad 3) (ad 10) (ad 11) (ad 12) cL ((rk_lim 3 kc_A 35 ((((fa_n le mo) : Int64).toInt32) * 7) (rk_neg 0 u_1)) 0) ((rk_lim 3 kc_A 35 ((((fa_n le mo) : Int64).toInt32) * 7) (rk_neg 0 u_1)) 6) _) (cwV 1 ha g_K_W_add rfl rfl rfl (by decide +kernel) ⟨Nat.le_of_ble_eq_true rfl, Nat.le_of_ble_eq_true rfl⟩) (ct_preV ct_G0ok trivial hK hP hD hS hA [1, 2, 10, 11] rfl (by decide) [0] rfl 1 0 rfl rfl rfl) rfl rfl hl.1 rfl (lv_room (Nat.le_of_ble_eq_true rfl)) d_K_setFlatAngle_111 ⟨Nat.le_of_ble_eq_true rfl, Nat.le_of_ble_eq_true rfl⟩) hP hD hS hA [1, 2, 10, 11] rfl (by decide) (fun _ => rfl) (fun u7 H locs hw hP hD hS => ?_)
      obtain rfl : u7 = _ := hw.trans (ir_eq _).symm
      obtain ⟨hP, hD⟩ : va_P (dC, dI) cl9 (rk_w ad cL (rk_add 0 3 (rk_lim 3 kc_A 35 ((((fa_n le mo) : Int64).toInt32) * 7) (rk_neg 0 u_1)))) H ∧ va_D A (rk_w ad cL (rk_add 0 3 (rk_lim 3 kc_A 35 ((((fa_n le mo) : Int64).toInt32) * 7) (rk_neg 0 u_1)))) := ct_eqP (rkw2_0_3 ad cL (rk_lim 3 kc_A 35 ((((fa_n le mo) : Int64).toInt32) * 7) (rk_neg 0 u_1)) _) hP hD
      exact ct_vret hF d_K_setFlatAngle_114 (rk_add 0 3 (rk_lim 3 kc_A 35 ((((fa_n le mo) : Int64).toInt32) * 7) (rk_neg 0 u_1))) (by subst hg_u_1; unfold rk_flat rk_fl1; rw [if_pos h0, if_neg h1]) hP hD hK hS
  · refine lv_aload_n hx hb d_K_setFlatAngle_6 rfl (lv_at hl 0 rfl) ?_
    refine va_get (D := (dC, dI)) (ci := 1) (v := .ref (ad 1)) (C := R_K) (T := F_K) (N := 5) hx hb ha ui_K hown hK hP 0 rfl rfl 0 (by decide) (ha _ wm_K_6) (fun _ h9 => h9) rfl d_K_setFlatAngle_7 ?_
    refine lv_lconst (v := 0) hx hb d_K_setFlatAngle_10 (by decide) ?_
    refine cs_callv (va_runV (As := [.long 0]) (rest := []) ⟨hx, hb, hml, hown, ha⟩ (c_W_load l dC dI (ad 1) (ad 2) (ad 3) cL (u 0) 0 _) (cwV 1 ha g_K_W_load rfl rfl rfl (by decide +kernel) ⟨Nat.le_of_ble_eq_true rfl, Nat.le_of_ble_eq_true rfl⟩) (ct_preV ct_G0ok trivial hK hP hD hS hA [1, 2] rfl (by decide) [0] rfl 1 0 rfl rfl rfl) rfl rfl hl.1 rfl (lv_room (Nat.le_of_ble_eq_true rfl)) d_K_setFlatAngle_11 ⟨Nat.le_of_ble_eq_true rfl, Nat.le_of_ble_eq_true rfl⟩) hP hD hS hA [1, 2] rfl (by decide) (fun _ => rfl) (fun u7 H locs hw hP hD hS => ?_)
    obtain rfl : u7 = _ := hw.trans (ir_eq _).symm
    obtain ⟨hP, hD⟩ : va_P (dC, dI) cl9 (rk_w ad cL (rk_load 0 0 u)) H ∧ va_D A (rk_w ad cL (rk_load 0 0 u)) := ct_eqP (rkw1_0 ad cL u _) hP hD
    exact ct_vret hF d_K_setFlatAngle_14 (rk_load 0 0 u) (by unfold rk_flat; rw [if_neg h0]) hP hD hK hS
