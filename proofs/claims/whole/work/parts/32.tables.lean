set_option maxHeartbeats 1000000 in
set_option maxRecDepth 100000 in
/-- a table by its number -/
theorem c_F_tableOf (l : Launch) (hst : l.stackTraces = false) (dC : Nat → ClassId) (dI : Nat → Nat → Nat) (fx : Nat) (sd : Int64) (tb tc ra : Nat) (htc : tc ≤ 6) (cT : ClassId) (tt : Nat → Nat) (t : Int32) (s1 s2 s3 s4 : Nat) (sz : Nat) : vx_Met l y_F_tableOf w_F_tableOf { frames := 6, cells := 1, slots := 6, locals := 82 } (va_Pc [.ref fx, .int t] (ct_P (dC, dI) cl9 [(cT, .object "HouseFunctions$Table")] (xg_G s1 s2 s3 s4) [(fx, .inr (3, [.long sd, .ref tb, .int (nI tc), .ref ra])), (tb, .inl (cT, 6, .inr (.inr (.inr (.inr (fq_f tt))))))] sz)) (va_Qr (fun j : Nat => j < tc ∧ t = nI j) (fun (j : Nat) (q : Nat) (t9 : State) => q = tt (3 * j) ∧ va_P (dC, dI) cl9 [(fx, .inr (3, [.long sd, .ref tb, .int (nI tc), .ref ra])), (tb, .inl (cT, 6, .inr (.inr (.inr (.inr (fq_f tt))))))] t9.heap) (va_A [(fx, .inr (3, [.long sd, .ref tb, .int (nI tc), .ref ra])), (tb, .inl (cT, 6, .inr (.inr (.inr (.inr (fq_f tt))))))] sz)) (cx_XC (dC, dI) cl9 [(cT, .object "HouseFunctions$Table")] [(fx, .inr (3, [.long sd, .ref tb, .int (nI tc), .ref ra])), (tb, .inl (cT, 6, .inr (.inr (.inr (.inr (fq_f tt))))))] (fun E => E = "java/lang/IllegalArgumentException" ∧ ¬ ∃ j : Nat, j < tc ∧ t = nI j) (va_A [(fx, .inr (3, [.long sd, .ref tb, .int (nI tc), .ref ra])), (tb, .inl (cT, 6, .inr (.inr (.inr (.inr (fq_f tt))))))] sz)) 1 6 (va_A [(fx, .inr (3, [.long sd, .ref tb, .int (nI tc), .ref ra])), (tb, .inl (cT, 6, .inr (.inr (.inr (.inr (fq_f tt))))))] sz) := by
  refine cx_of (Qf := fun A => va_Qr (fun j : Nat => j < tc ∧ t = nI j) (fun (j : Nat) (q : Nat) (t9 : State) => q = tt (3 * j) ∧ va_P (dC, dI) cl9 [(fx, .inr (3, [.long sd, .ref tb, .int (nI tc), .ref ra])), (tb, .inl (cT, 6, .inr (.inr (.inr (.inr (fq_f tt))))))] t9.heap) A) (Xf := cx_XC (dC, dI) cl9 [(cT, .object "HouseFunctions$Table")] [(fx, .inr (3, [.long sd, .ref tb, .int (nI tc), .ref ra])), (tb, .inl (cT, 6, .inr (.inr (.inr (.inr (fq_f tt))))))] (fun E => E = "java/lang/IllegalArgumentException" ∧ ¬ ∃ j : Nat, j < tc ∧ t = nI j)) (cc := b_F_tableOf) (maxL := 2) (ret := ((some (.object "HouseFunctions$Table")))) (by decide) rfl (Nat.le_of_ble_eq_true rfl) ?_
  intro p e s m below meth c A ls hF hno hA hP hK hD hG hS hl
  obtain ⟨hx, hb, hr, hml, hts, hown, hlocks, hnm⟩ := id hF
  have hown : s.vm.findClass R_F = some m.cls := hown
  have ha : ∀ w ∈ al_F, w.before [.ref fx, .int t].toArray s = true := fun w h => hts w (List.mem_cons_of_mem _ h)
  have hl : lv_has ls 2 [(0, .ref fx), (1, .int t)] := hl
  refine lv_iload_n hx hb d_F_tableOf_0 rfl (lv_at hl 1 rfl) ?_
  refine lv_if_lt (tgt := 21) hx hb d_F_tableOf_1 (by decide) (fun h1 => ?_) (fun h1 => ?_)
  · refine vx_throwS (own := R_F) (cls := "java/lang/IllegalArgumentException") (text := "there is no such table") (names := ["java/lang/RuntimeException", "java/lang/Exception"]) (sa := s3) hx hb hst hown (by decide +kernel) (by decide +kernel) (ha _ wm_F_31) (ha _ wm_F_113) hG.2.2.2.1 (xt_hatI ha hG.1.1) xt_Iot hG.1.2.1 hG.1.2.2 hS (hl.1.trans hml.symm) d_F_tableOf_21 d_F_tableOf_24 d_F_tableOf_25 d_F_tableOf_27 d_F_tableOf_30 (fun x h => (hno x h).elim) (Nat.lt_of_lt_of_le (Nat.lt_succ_self 5) (Nat.le_of_ble_eq_true rfl)) (Nat.le_of_ble_eq_true rfl) (Nat.le_of_ble_eq_true rfl) (Nat.le_of_ble_eq_true rfl) hlocks (cx_thrown ⟨rfl, fun ⟨j, hj, e⟩ => nI_pos (by omega) (e ▸ h1)⟩ hP hK hD hS) hS.2.2 (Nat.le_of_ble_eq_true rfl) (Nat.le_of_ble_eq_true rfl)
  · refine lv_iload_n hx hb d_F_tableOf_4 rfl (lv_at hl 1 rfl) ?_
    refine lv_aload_n hx hb d_F_tableOf_5 rfl (lv_at hl 0 rfl) ?_
    refine va_get (D := (dC, dI)) (ci := 3) (v := .int (nI tc)) (C := R_F) (T := F_F) (N := 4) hx hb ha ui_F hown hK hP 0 rfl rfl 2 (by decide) (ha _ wm_F_9) (fun _ h9 => h9) rfl d_F_tableOf_6 ?_
    refine lv_icmp_ge (tgt := 21) hx hb d_F_tableOf_9 (by decide) (fun h2 => ?_) (fun h2 => ?_)
    · refine vx_throwS (own := R_F) (cls := "java/lang/IllegalArgumentException") (text := "there is no such table") (names := ["java/lang/RuntimeException", "java/lang/Exception"]) (sa := s3) hx hb hst hown (by decide +kernel) (by decide +kernel) (ha _ wm_F_31) (ha _ wm_F_113) hG.2.2.2.1 (xt_hatI ha hG.1.1) xt_Iot hG.1.2.1 hG.1.2.2 hS (hl.1.trans hml.symm) d_F_tableOf_21 d_F_tableOf_24 d_F_tableOf_25 d_F_tableOf_27 d_F_tableOf_30 (fun x h => (hno x h).elim) (Nat.lt_of_lt_of_le (Nat.lt_succ_self 5) (Nat.le_of_ble_eq_true rfl)) (Nat.le_of_ble_eq_true rfl) (Nat.le_of_ble_eq_true rfl) (Nat.le_of_ble_eq_true rfl) hlocks (cx_thrown ⟨rfl, fun ⟨j, hj, e⟩ => nI_ge hj (by omega) (e ▸ h2)⟩ hP hK hD hS) hS.2.2 (Nat.le_of_ble_eq_true rfl) (Nat.le_of_ble_eq_true rfl)
    · refine lv_iload_n hx hb d_F_tableOf_12 rfl (lv_at hl 1 rfl) ?_
      refine lv_aload_n hx hb d_F_tableOf_13 rfl (lv_at hl 0 rfl) ?_
      refine va_get (D := (dC, dI)) (ci := 3) (v := .ref tb) (C := R_F) (T := F_F) (N := 4) hx hb ha ui_F hown hK hP 0 rfl rfl 1 (by decide) (ha _ wm_F_8) (fun _ h9 => h9) rfl d_F_tableOf_14 ?_
      refine va_alen (v := 6) hx hb hK hP 1 0 rfl rfl rfl d_F_tableOf_17 ?_
      refine lv_icmp_lt (tgt := 31) hx hb d_F_tableOf_18 (by decide) (fun h3 => ?_) (fun h3 => ?_)
      · obtain ⟨j, hj, ej, -⟩ := pk_mu h1 h2 (by omega)
        subst ej
        refine lv_aload_n hx hb d_F_tableOf_31 rfl (lv_at hl 0 rfl) ?_
        refine va_get (D := (dC, dI)) (ci := 3) (v := .ref tb) (C := R_F) (T := F_F) (N := 4) hx hb ha ui_F hown hK hP 0 rfl rfl 1 (by decide) (ha _ wm_F_8) (fun _ h9 => h9) rfl d_F_tableOf_32 ?_
        refine lv_iload_n hx hb d_F_tableOf_35 rfl (lv_at hl 1 rfl) ?_
        refine va_aldq hx hb hK hP 1 0 rfl rfl (vp_in_nI (by omega) (by omega)) d_F_tableOf_36 ?_
        rw [nI_clamp (by omega), show fq_f tt j = some (tt (3 * j)) from if_pos (by omega)]
        refine W.widen (k := 1) (n := 6) (Nat.le_of_ble_eq_true rfl) (Nat.le_of_ble_eq_true rfl) ?_
        exact vx_ret (ct_aret hF d_F_tableOf_37 j ⟨hj, rfl⟩ (fun t9 ht hv9 => ⟨rfl, by rw [ht]; exact hP⟩) hS)
      · exact absurd (show t < nI 6 from by obtain ⟨j, hj, ej, -⟩ := pk_mu h1 h2 (by omega); rw [ej]; exact nI_lt (by omega) (by omega)) h3
set_option maxHeartbeats 1000000 in
set_option maxRecDepth 100000 in
/-- a table: its number -/
theorem c_F_table (l : Launch) (hst : l.stackTraces = false) (dC : Nat → ClassId) (dI : Nat → Nat → Nat) (fx : Nat) (sd : Int64) (tb tc ra : Nat) (htc : tc ≤ 6) (s1 s2 s3 s4 : Nat) (sz : Nat) : cx_I l y_F_table w_F_table { frames := 7, cells := 1, slots := 6, locals := 160 } (dC, dI) cl9 [] (xg_G s1 s2 s3 s4) [.ref fx] [(fx, .inr (3, [.long sd, .ref tb, .int (nI tc), .ref ra]))] sz (S := Nat) (fun r (u : Nat) => tc < 6 ∧ r = nI tc ∧ u = tc + 1) (fun _ : Nat => []) (fun u : Nat => [(fx, .inr (3, [.long sd, .ref tb, .int (nI u), .ref ra]))]) (fun E => E = "java/lang/IllegalStateException" ∧ tc = 6) 1 6 := by
  refine cx_of (Qf := fun A => va_Qi (fun r (u : Nat) => tc < 6 ∧ r = nI tc ∧ u = tc + 1) (ct_B (S := Nat) (dC, dI) cl9 (fun _ : Nat => []) A (fun u : Nat => [(fx, .inr (3, [.long sd, .ref tb, .int (nI u), .ref ra]))])) A) (Xf := cx_XC (dC, dI) cl9 [] [(fx, .inr (3, [.long sd, .ref tb, .int (nI tc), .ref ra]))] (fun E => E = "java/lang/IllegalStateException" ∧ tc = 6)) (cc := b_F_table) (maxL := 1) (ret := ((some .int))) (by decide) rfl (Nat.le_of_ble_eq_true rfl) ?_
  intro p e s m below meth c A ls hF hno hA hP hK hD hG hS hl
  obtain ⟨hx, hb, hr, hml, hts, hown, hlocks, hnm⟩ := id hF
  have hown : s.vm.findClass R_F = some m.cls := hown
  have ha : ∀ w ∈ al_F, w.before [.ref fx].toArray s = true := fun w h => hts w (List.mem_cons_of_mem _ h)
  have hl : lv_has ls 1 [(0, .ref fx)] := hl
  refine lv_aload_n hx hb d_F_table_0 rfl (lv_at hl 0 rfl) ?_
  refine va_get (D := (dC, dI)) (ci := 3) (v := .int (nI tc)) (C := R_F) (T := F_F) (N := 4) hx hb ha ui_F hown hK hP 0 rfl rfl 2 (by decide) (ha _ wm_F_9) (fun _ h9 => h9) rfl d_F_table_1 ?_
  refine lv_bipush (v := 6) hx hb d_F_table_4 (by decide) ?_
  refine lv_icmp_lt (tgt := 19) hx hb d_F_table_6 (by decide) (fun h1 => ?_) (fun h1 => ?_)
  · have hlt : tc < 6 := Nat.lt_of_not_le (fun q => nI_nlt q (by omega) (show nI tc < nI 6 from h1))
    refine lv_aload_n hx hb d_F_table_19 rfl (lv_at hl 0 rfl) ?_
    refine lv_dup hx hb d_F_table_20 rfl ?_
    refine va_get (D := (dC, dI)) (ci := 3) (v := .int (nI tc)) (C := R_F) (T := F_F) (N := 4) hx hb ha ui_F hown hK hP 0 rfl rfl 2 (by decide) (ha _ wm_F_9) (fun _ h9 => h9) rfl d_F_table_21 ?_
    refine lv_iconst (v := 1) hx hb d_F_table_24 (by decide) ?_
    refine lv_iadd hx hb d_F_table_25 ?_
    refine lv_topi (fun c9 ec9 => ?_)
    obtain rfl : c9 = nI (tc + 1) := ec9.trans (nI_1 tc)
    refine va_put (D := (dC, dI)) (ci := 3) (v := .int (nI (tc + 1))) (ty := .int) (C := R_F) (T := F_F) (N := 4) hx hb ha ui_F ft_F tk_F nm_F hown hK hP hD hS 0 rfl rfl 2 (by decide) (ha _ wm_F_9) (fun _ h9 => h9) rfl (by decide +kernel) rfl rfl (Nat.le_of_ble_eq_true rfl) d_F_table_26 (fun H locs hP hD hS => ?_)
    have hP : va_P (dC, dI) cl9 [(fx, .inr (3, [.long sd, .ref tb, .int (nI (tc + 1)), .ref ra]))] H := hP
    have hD : va_D A [(fx, .inr (3, [.long sd, .ref tb, .int (nI (tc + 1)), .ref ra]))] := hD
    refine lv_aload_n hx hb d_F_table_29 rfl (lv_at hl 0 rfl) ?_
    refine va_get (D := (dC, dI)) (ci := 3) (v := .int (nI (tc + 1))) (C := R_F) (T := F_F) (N := 4) hx hb ha ui_F hown hK hP 0 rfl rfl 2 (by decide) (ha _ wm_F_9) (fun _ h9 => h9) rfl d_F_table_30 ?_
    refine lv_iconst (v := 1) hx hb d_F_table_33 (by decide) ?_
    refine lv_isub hx hb d_F_table_34 ?_
    rw [nI_pred]
    refine W.widen (k := 1) (n := 6) (Nat.le_of_ble_eq_true rfl) (Nat.le_of_ble_eq_true rfl) ?_
    exact vx_ret (ct_iret hF d_F_table_35 (tc + 1) ⟨hlt, rfl, rfl⟩ (hP.sub [0] rfl) (hD.sub [0] (by decide) rfl) hK hS)
  · refine vx_throwS (own := R_F) (cls := "java/lang/IllegalStateException") (text := "there are 6 tables") (names := ["java/lang/RuntimeException", "java/lang/Exception"]) (sa := s2) hx hb hst hown (by decide +kernel) (by decide +kernel) (ha _ wm_F_86) (ha _ wm_F_114) hG.2.2.1 (xt_hatS ha hG.1.1) xt_Sot hG.1.2.1 hG.1.2.2 hS (hl.1.trans hml.symm) d_F_table_9 d_F_table_12 d_F_table_13 d_F_table_15 d_F_table_18 (fun x h => (hno x h).elim) (Nat.lt_of_lt_of_le (Nat.lt_succ_self 5) (Nat.le_of_ble_eq_true rfl)) (Nat.le_of_ble_eq_true rfl) (Nat.le_of_ble_eq_true rfl) (Nat.le_of_ble_eq_true rfl) hlocks (cx_thrown ⟨rfl, by have := Nat.le_of_not_lt (fun q => h1 (show nI tc < nI 6 from nI_lt q (by omega))); omega⟩ hP hK hD hS) hS.2.2 (Nat.le_of_ble_eq_true rfl) (Nat.le_of_ble_eq_true rfl)
