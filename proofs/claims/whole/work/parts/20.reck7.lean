def sw_q (mi : Int64) : Int64 := mi * 636619772 / 1000000000000000
def sw_t (mi : Int64) (qb : Int32) : Int32 := ((sw_q mi + qb.toInt64) &&& 3).toInt32
def rk_sw0 (mi : Int64) (u : rk_U) : rk_U := rk_mul 5 2 0 (rk_cpy 2 0 (rk_sub 0 3 (rk_scl 3 (sw_q mi) (rk_lim 3 kc_H 7 0 (rk_ratio 0 mi 1000000 u)))))
def rk_sw1 (t : Int32) (u : rk_U) : rk_U := if t &&& 1 = 1 then rk_fac 1 (rk_load 0 1 u) else rk_fac 2 u
def rk_sw2 (t : Int32) (u : rk_U) : rk_U := if t < 2 then u else rk_neg 0 u
def rk_swing (mi : Int64) (qb : Int32) (u : rk_U) : rk_U := rk_sw2 (sw_t mi qb) (rk_sw1 (sw_t mi qb) (rk_sw0 mi u))
set_option maxHeartbeats 1000000 in
set_option maxRecDepth 100000 in
/-- the series, by the quarter -/
theorem sg_sw1 {p : Program} {l : Launch} {e : Env} {R : Room} {s : State} {m : MethodId} {args : Array Value} {below : List Frame} {meth : Method} {c : Code} {Q : State → Prop} {A : Nat → Prop} {cells slots : Nat} {dC : Nat → ClassId} {dI : Nat → Nat → Nat} {ad : Nat → Nat} {cL : ClassId} {v : rk_U} {t : Int32} (hF : ct_F p s m meth c b_K_swing none 8 w_K_swing y_K_swing args) (hA : ∀ q, s.heap.size ≤ q → A q) (hK : va_K (dC, dI) cl9 [(cL, .long)] s) (hRf : 4 ≤ R.frames) (hRl : 100 ≤ R.locals) (hRc : cells ≤ R.cells) (hRs : slots ≤ R.slots) 
    (K : ∀ (z9 : rk_U) (H : Heap) (locs : List Loc) (ls : Array Slot), z9 = rk_sw1 t v → va_P (dC, dI) cl9 (rk_w ad cL z9) H → va_D A (rk_w ad cL z9) → va_S A s.heap H locs → lv_has ls 8 [(0, .ref (ad 0)), (6, .int t)] → W p l e R s m args below meth c H locs cells slots Q (F0 m 129 ls [])) :
    ∀ (H : Heap) (locs : List Loc) (ls : Array Slot), va_P (dC, dI) cl9 (rk_w ad cL v) H → va_D A (rk_w ad cL v) → va_S A s.heap H locs → lv_has ls 8 [(0, .ref (ad 0)), (6, .int t)] → W p l e R s m args below meth c H locs cells slots Q (F0 m 87 ls []) := by
  obtain ⟨hx, hb, hr, hml, hts, hown, hlocks, hnm⟩ := id hF
  have hown : s.vm.findClass R_K = some m.cls := hown
  have ha : ∀ w ∈ al_K, w.before args s = true := fun w h => hts w (List.mem_cons_of_mem _ h)
  intro H locs ls hP hD hS hl
  refine lv_iload hx hb d_K_swing_87 (lv_at hl 1 rfl) ?_
  refine lv_iconst (v := 1) hx hb d_K_swing_89 (by decide) ?_
  refine lv_iand hx hb d_K_swing_90 ?_
  refine lv_iconst (v := 1) hx hb d_K_swing_91 (by decide) ?_
  refine lv_icmp_ne (tgt := 99) hx hb d_K_swing_92 (by decide) (fun h1 => ?_) (fun h1 => ?_)
  · refine lv_iconst (v := 0) hx hb d_K_swing_99 (by decide) ?_
    refine lv_istore (lv' := [(7, .int 0), (0, .ref (ad 0)), (6, .int t)]) hx hb d_K_swing_100 hl (by decide) rfl (fun ls hl => ?_)
    refine lv_iload hx hb d_K_swing_102 (lv_at hl 0 rfl) ?_
    refine lv_if_eq (tgt := 115) hx hb d_K_swing_104 (by decide) (fun h9 => ?_) (fun h9 => ?_)
    · refine lv_aload_n hx hb d_K_swing_115 rfl (lv_at hl 1 rfl) ?_
      refine lv_iload hx hb d_K_swing_116 (lv_at hl 0 rfl) ?_
      refine lv_if_eq (tgt := 125) hx hb d_K_swing_118 (by decide) (fun h9 => ?_) (fun h9 => ?_)
      · refine lv_iconst (v := 2) hx hb d_K_swing_125 (by decide) ?_
        refine cs_callv (va_runV (As := [.int 2]) (rest := []) ⟨hx, hb, hml, hown, ha⟩ (c_K_sumFactorials l dC dI ad cL v 2 (Or.inr rfl) _) (cwV 1 ha g_K_K_sumFactorials rfl rfl rfl (by decide +kernel) ⟨Nat.le_trans (Nat.le_of_ble_eq_true rfl) hRf, Nat.le_trans (Nat.le_of_ble_eq_true rfl) hRl⟩) (ct_preV ct_G0ok trivial hK hP hD hS hA [0, 1, 2, 3, 4, 5, 6, 7, 8, 9, 10, 11, 12, 13, 14, 15] rfl (by decide) [0] rfl 0 1 rfl rfl rfl) rfl rfl hl.1 rfl (lv_room (Nat.le_of_ble_eq_true rfl)) d_K_swing_126 ⟨hRc, hRs⟩) hP hD hS hA [0, 1, 2, 3, 4, 5, 6, 7, 8, 9, 10, 11, 12, 13, 14, 15] rfl (by decide) (fun _ => rfl) (fun u7 H locs hw hP hD hS => ?_)
        subst hw
        obtain ⟨hP, hD⟩ : va_P (dC, dI) cl9 (rk_w ad cL (rk_fac 2 v)) H ∧ va_D A (rk_w ad cL (rk_fac 2 v)) := ct_eqP (rkwA ad cL v _) hP hD
        generalize hg_u_1 : rk_fac 2 v = u_1 at hP hD
        exact K u_1 _ _ _ (by subst hg_u_1; exact (if_neg h1).symm) hP hD hS (lv_sub hl [1, 2] rfl)
      · exact absurd rfl h9
    · exact absurd rfl h9
  · refine lv_iconst (v := 1) hx hb d_K_swing_95 (by decide) ?_
    refine lv_goto (tgt := 100) hx hb d_K_swing_96 (by decide) ?_
    refine lv_istore (lv' := [(7, .int 1), (0, .ref (ad 0)), (6, .int t)]) hx hb d_K_swing_100 hl (by decide) rfl (fun ls hl => ?_)
    refine lv_iload hx hb d_K_swing_102 (lv_at hl 0 rfl) ?_
    refine lv_if_eq (tgt := 115) hx hb d_K_swing_104 (by decide) (fun h9 => ?_) (fun h9 => ?_)
    · exact absurd h9 (by decide)
    · refine lv_aload_n hx hb d_K_swing_107 rfl (lv_at hl 1 rfl) ?_
      refine va_get (D := (dC, dI)) (ci := 1) (v := .ref (ad 1)) (C := R_K) (T := F_K) (N := 5) hx hb ha ui_K hown hK hP 0 rfl rfl 0 (by decide) (ha _ wm_K_6) (fun _ h9 => h9) rfl d_K_swing_108 ?_
      refine lv_lconst (v := 1) hx hb d_K_swing_111 (by decide) ?_
      refine cs_callv (va_runV (As := [.long 1]) (rest := []) ⟨hx, hb, hml, hown, ha⟩ (c_W_load l dC dI (ad 1) (ad 2) (ad 3) cL (v 0) 1 _) (cwV 1 ha g_K_W_load rfl rfl rfl (by decide +kernel) ⟨Nat.le_trans (Nat.le_of_ble_eq_true rfl) hRf, Nat.le_trans (Nat.le_of_ble_eq_true rfl) hRl⟩) (ct_preV ct_G0ok trivial hK hP hD hS hA [1, 2] rfl (by decide) [0] rfl 1 0 rfl rfl rfl) rfl rfl hl.1 rfl (lv_room (Nat.le_of_ble_eq_true rfl)) d_K_swing_112 ⟨hRc, hRs⟩) hP hD hS hA [1, 2] rfl (by decide) (fun _ => rfl) (fun u7 H locs hw hP hD hS => ?_)
      obtain rfl : u7 = _ := hw.trans (ir_eq _).symm
      obtain ⟨hP, hD⟩ : va_P (dC, dI) cl9 (rk_w ad cL (rk_load 0 1 v)) H ∧ va_D A (rk_w ad cL (rk_load 0 1 v)) := ct_eqP (rkw1_0 ad cL v _) hP hD
      generalize hg_u_2 : rk_load 0 1 v = u_2 at hP hD
      refine lv_aload_n hx hb d_K_swing_115 rfl (lv_at hl 1 rfl) ?_
      refine lv_iload hx hb d_K_swing_116 (lv_at hl 0 rfl) ?_
      refine lv_if_eq (tgt := 125) hx hb d_K_swing_118 (by decide) (fun h9 => ?_) (fun h9 => ?_)
      · exact absurd h9 (by decide)
      · refine lv_iconst (v := 1) hx hb d_K_swing_121 (by decide) ?_
        refine lv_goto (tgt := 126) hx hb d_K_swing_122 (by decide) ?_
        refine cs_callv (va_runV (As := [.int 1]) (rest := []) ⟨hx, hb, hml, hown, ha⟩ (c_K_sumFactorials l dC dI ad cL u_2 1 (Or.inl rfl) _) (cwV 1 ha g_K_K_sumFactorials rfl rfl rfl (by decide +kernel) ⟨Nat.le_trans (Nat.le_of_ble_eq_true rfl) hRf, Nat.le_trans (Nat.le_of_ble_eq_true rfl) hRl⟩) (ct_preV ct_G0ok trivial hK hP hD hS hA [0, 1, 2, 3, 4, 5, 6, 7, 8, 9, 10, 11, 12, 13, 14, 15] rfl (by decide) [0] rfl 0 1 rfl rfl rfl) rfl rfl hl.1 rfl (lv_room (Nat.le_of_ble_eq_true rfl)) d_K_swing_126 ⟨hRc, hRs⟩) hP hD hS hA [0, 1, 2, 3, 4, 5, 6, 7, 8, 9, 10, 11, 12, 13, 14, 15] rfl (by decide) (fun _ => rfl) (fun u7 H locs hw hP hD hS => ?_)
        subst hw
        obtain ⟨hP, hD⟩ : va_P (dC, dI) cl9 (rk_w ad cL (rk_fac 1 u_2)) H ∧ va_D A (rk_w ad cL (rk_fac 1 u_2)) := ct_eqP (rkwA ad cL u_2 _) hP hD
        generalize hg_u_3 : rk_fac 1 u_2 = u_3 at hP hD
        exact K u_3 _ _ _ (by subst hg_u_3; subst hg_u_2; exact (if_pos h1).symm) hP hD hS (lv_sub hl [1, 2] rfl)
set_option maxHeartbeats 1000000 in
set_option maxRecDepth 100000 in
/-- the sine of so many millionths and quarters -/
theorem c_K_swing (l : Launch) (dC : Nat → ClassId) (dI : Nat → Nat → Nat) (ad : Nat → Nat) (cL : ClassId) (u : rk_U) (mi : Int64) (qb : Int32) (tl th ta : Nat) (sz : Nat) : ct_V l y_K_swing w_K_swing { frames := 4, cells := 0, slots := 0, locals := 100 } (dC, dI) cl9 [(cL, .long)] (kg_G tl th ta) [.ref (ad 0), .long mi, .int qb] (rk_w ad cL u) sz (S := rk_U) (fun u' : rk_U => u' = rk_swing mi qb u) (fun _ : rk_U => [(cL, .long)]) (fun u' : rk_U => rk_w ad cL u') 0 0 := by
  refine ct_of (Qf := fun A => va_Qv (fun u' : rk_U => u' = rk_swing mi qb u) (ct_B (S := rk_U) (dC, dI) cl9 (fun _ : rk_U => [(cL, .long)]) A (fun u' : rk_U => rk_w ad cL u')) A) (cc := b_K_swing) (maxL := 8) (ret := none) (by decide) rfl (Nat.le_of_ble_eq_true rfl) ?_
  intro p e s m below meth c A ls hF hA hP hK hD hG hS hl
  obtain ⟨hx, hb, hr, hml, hts, hown, hlocks, hnm⟩ := id hF
  have hown : s.vm.findClass R_K = some m.cls := hown
  have ha : ∀ w ∈ al_K, w.before [.ref (ad 0), .long mi, .int qb].toArray s = true := fun w h => hts w (List.mem_cons_of_mem _ h)
  have hl : lv_has ls 8 [(0, .ref (ad 0)), (1, .long mi), (3, .int qb)] := hl
  refine lv_lload_n hx hb d_K_swing_0 rfl (lv_at hl 1 rfl) ?_
  refine lv_ldc2 (v := 636619772) hx hb hown (ha _ wm_K_49) d_K_swing_1 ?_
  refine lv_lmul hx hb d_K_swing_4 ?_
  refine lv_ldc2 (v := 1000000000000000) hx hb hown (ha _ wm_K_50) d_K_swing_5 ?_
  refine lv_ldiv hx hb d_K_swing_8 (by decide) ?_
  refine lv_lstore (lv' := [(4, .long ((mi * 636619772) / 1000000000000000)), (0, .ref (ad 0)), (1, .long mi), (3, .int qb)]) hx hb d_K_swing_9 hl (by decide) rfl (fun ls hl => ?_)
  have hl : lv_has ls 8 [(0, .ref (ad 0)), (1, .long mi), (3, .int qb), (4, .long (sw_q mi))] := lv_sub hl [1, 2, 3, 0] rfl
  refine lv_aload_n hx hb d_K_swing_11 rfl (lv_at hl 0 rfl) ?_
  refine va_get (D := (dC, dI)) (ci := 1) (v := .ref (ad 1)) (C := R_K) (T := F_K) (N := 5) hx hb ha ui_K hown hK hP 0 rfl rfl 0 (by decide) (ha _ wm_K_6) (fun _ h9 => h9) rfl d_K_swing_12 ?_
  refine lv_lload_n hx hb d_K_swing_15 rfl (lv_at hl 1 rfl) ?_
  refine lv_ldc2 (v := 1000000) hx hb hown (ha _ wm_K_51) d_K_swing_16 ?_
  refine cs_callv (va_runV (As := [.long mi, .long 1000000]) (rest := []) ⟨hx, hb, hml, hown, ha⟩ (c_W_loadRatio l dC dI (ad 1) (ad 2) (ad 3) cL (u 0) mi 1000000 _) (cwV 2 ha g_K_W_loadRatio rfl rfl rfl (by decide +kernel) ⟨Nat.le_of_ble_eq_true rfl, Nat.le_of_ble_eq_true rfl⟩) (ct_preV ct_G0ok trivial hK hP hD hS hA [1, 2] rfl (by decide) [0] rfl 1 0 rfl rfl rfl) rfl rfl hl.1 rfl (lv_room (Nat.le_of_ble_eq_true rfl)) d_K_swing_19 ⟨Nat.le_of_ble_eq_true rfl, Nat.le_of_ble_eq_true rfl⟩) hP hD hS hA [1, 2] rfl (by decide) (fun _ => rfl) (fun u7 H locs hw hP hD hS => ?_)
  obtain rfl : u7 = _ := hw.trans (ir_eq _).symm
  obtain ⟨hP, hD⟩ : va_P (dC, dI) cl9 (rk_w ad cL (rk_ratio 0 mi 1000000 u)) H ∧ va_D A (rk_w ad cL (rk_ratio 0 mi 1000000 u)) := ct_eqP (rkw1_0 ad cL u _) hP hD
  generalize hg_u_1 : rk_ratio 0 mi 1000000 u = u_1 at hP hD
  refine lv_aload_n hx hb d_K_swing_22 rfl (lv_at hl 0 rfl) ?_
  refine va_get (D := (dC, dI)) (ci := 1) (v := .ref (ad 10)) (C := R_K) (T := F_K) (N := 5) hx hb ha ui_K hown hK hP 0 rfl rfl 3 (by decide) (ha _ wm_K_9) (fun _ h9 => h9) rfl d_K_swing_23 ?_
  refine va_gets (C := "HouseFunctions$Reckoner") (n := "HALF_PI") (d := "[J") (v := .ref th) hx hb hG.2.1.1 hS hown (ha _ wm_K_52) (fun _ h9 => h9) d_K_swing_26 ?_
  refine lv_iconst (v := 0) hx hb d_K_swing_29 (by decide) ?_
  refine cs_callv (va_runV (As := [.ref th, .int 0]) (rest := []) ⟨hx, hb, hml, hown, ha⟩ (c_W_loadLimbs l dC dI (ad 10) (ad 11) (ad 12) cL (u_1 6) th 7 (by omega) kc_H 0 _) (cwV 2 ha g_K_W_loadLimbs rfl rfl rfl (by decide +kernel) ⟨Nat.le_of_ble_eq_true rfl, Nat.le_of_ble_eq_true rfl⟩) (ct_preV (ld_Gok th 7 kc_H) hG.2.1.2 hK hP hD hS hA [10, 11] rfl (by decide) [0] rfl 10 0 rfl rfl rfl) rfl rfl hl.1 rfl (lv_room (Nat.le_of_ble_eq_true rfl)) d_K_swing_30 ⟨Nat.le_of_ble_eq_true rfl, Nat.le_of_ble_eq_true rfl⟩) hP hD hS hA [10, 11] rfl (by decide) (fun _ => rfl) (fun u7 H locs hw hP hD hS => ?_)
  obtain rfl : u7 = _ := hw.trans (ir_eq _).symm
  obtain ⟨hP, hD⟩ : va_P (dC, dI) cl9 (rk_w ad cL (rk_lim 3 kc_H 7 0 u_1)) H ∧ va_D A (rk_w ad cL (rk_lim 3 kc_H 7 0 u_1)) := ct_eqP (rkw1_3 ad cL u_1 _) hP hD
  generalize hg_u_2 : rk_lim 3 kc_H 7 0 u_1 = u_2 at hP hD
  refine lv_aload_n hx hb d_K_swing_33 rfl (lv_at hl 0 rfl) ?_
  refine va_get (D := (dC, dI)) (ci := 1) (v := .ref (ad 10)) (C := R_K) (T := F_K) (N := 5) hx hb ha ui_K hown hK hP 0 rfl rfl 3 (by decide) (ha _ wm_K_9) (fun _ h9 => h9) rfl d_K_swing_34 ?_
  refine lv_lload hx hb d_K_swing_37 (lv_at hl 3 rfl) ?_
  refine cs_callv (va_runV (As := [.long (sw_q mi)]) (rest := []) ⟨hx, hb, hml, hown, ha⟩ (c_W_scale l dC dI (ad 10) (ad 11) (ad 12) cL (u_2 6) (sw_q mi) _) (cwV 1 ha g_K_W_scale rfl rfl rfl (by decide +kernel) ⟨Nat.le_of_ble_eq_true rfl, Nat.le_of_ble_eq_true rfl⟩) (ct_preV ct_G0ok trivial hK hP hD hS hA [10, 11] rfl (by decide) [0] rfl 10 0 rfl rfl rfl) rfl rfl hl.1 rfl (lv_room (Nat.le_of_ble_eq_true rfl)) d_K_swing_39 ⟨Nat.le_of_ble_eq_true rfl, Nat.le_of_ble_eq_true rfl⟩) hP hD hS hA [10, 11] rfl (by decide) (fun _ => rfl) (fun u7 H locs hw hP hD hS => ?_)
  obtain rfl : u7 = _ := hw.trans (ir_eq _).symm
  obtain ⟨hP, hD⟩ : va_P (dC, dI) cl9 (rk_w ad cL (rk_scl 3 (sw_q mi) u_2)) H ∧ va_D A (rk_w ad cL (rk_scl 3 (sw_q mi) u_2)) := ct_eqP (rkw1_3 ad cL u_2 _) hP hD
  generalize hg_u_3 : rk_scl 3 (sw_q mi) u_2 = u_3 at hP hD
  refine lv_aload_n hx hb d_K_swing_42 rfl (lv_at hl 0 rfl) ?_
  refine va_get (D := (dC, dI)) (ci := 1) (v := .ref (ad 1)) (C := R_K) (T := F_K) (N := 5) hx hb ha ui_K hown hK hP 0 rfl rfl 0 (by decide) (ha _ wm_K_6) (fun _ h9 => h9) rfl d_K_swing_43 ?_
  refine lv_aload_n hx hb d_K_swing_46 rfl (lv_at hl 0 rfl) ?_
  refine va_get (D := (dC, dI)) (ci := 1) (v := .ref (ad 10)) (C := R_K) (T := F_K) (N := 5) hx hb ha ui_K hown hK hP 0 rfl rfl 3 (by decide) (ha _ wm_K_9) (fun _ h9 => h9) rfl d_K_swing_47 ?_
  refine cs_callv (va_runV (As := [.ref (ad 10)]) (rest := []) ⟨hx, hb, hml, hown, ha⟩ (c_W_subtract l dC dI (ad 1) (ad 2) (ad 3) (ad 10) (ad 11) (ad 12) cL (u_3 0) (u_3 6) _) (cwV 1 ha g_K_W_subtract rfl rfl rfl (by decide +kernel) ⟨Nat.le_of_ble_eq_true rfl, Nat.le_of_ble_eq_true rfl⟩) (ct_preV ct_G0ok trivial hK hP hD hS hA [1, 2, 10, 11] rfl (by decide) [0] rfl 1 0 rfl rfl rfl) rfl rfl hl.1 rfl (lv_room (Nat.le_of_ble_eq_true rfl)) d_K_swing_50 ⟨Nat.le_of_ble_eq_true rfl, Nat.le_of_ble_eq_true rfl⟩) hP hD hS hA [1, 2, 10, 11] rfl (by decide) (fun _ => rfl) (fun u7 H locs hw hP hD hS => ?_)
  obtain rfl : u7 = _ := hw.trans (ir_eq _).symm
  obtain ⟨hP, hD⟩ : va_P (dC, dI) cl9 (rk_w ad cL (rk_sub 0 3 u_3)) H ∧ va_D A (rk_w ad cL (rk_sub 0 3 u_3)) := ct_eqP (rkw2_0_3 ad cL u_3 _) hP hD
  generalize hg_u_4 : rk_sub 0 3 u_3 = u_4 at hP hD
  refine lv_aload_n hx hb d_K_swing_53 rfl (lv_at hl 0 rfl) ?_
  refine va_get (D := (dC, dI)) (ci := 1) (v := .ref (ad 7)) (C := R_K) (T := F_K) (N := 5) hx hb ha ui_K hown hK hP 0 rfl rfl 2 (by decide) (ha _ wm_K_8) (fun _ h9 => h9) rfl d_K_swing_54 ?_
  refine lv_aload_n hx hb d_K_swing_57 rfl (lv_at hl 0 rfl) ?_
  refine va_get (D := (dC, dI)) (ci := 1) (v := .ref (ad 1)) (C := R_K) (T := F_K) (N := 5) hx hb ha ui_K hown hK hP 0 rfl rfl 0 (by decide) (ha _ wm_K_6) (fun _ h9 => h9) rfl d_K_swing_58 ?_
  refine cs_callv (va_runV (As := [.ref (ad 1)]) (rest := []) ⟨hx, hb, hml, hown, ha⟩ (c_W_loadWide l dC dI (ad 7) (ad 8) (ad 9) (ad 1) (ad 2) (ad 3) cL (u_4 4) (u_4 0) _) (cwV 1 ha g_K_W_loadWide rfl rfl rfl (by decide +kernel) ⟨Nat.le_of_ble_eq_true rfl, Nat.le_of_ble_eq_true rfl⟩) (ct_preV ct_G0ok trivial hK hP hD hS hA [7, 8, 1, 2] rfl (by decide) [0] rfl 7 0 rfl rfl rfl) rfl rfl hl.1 rfl (lv_room (Nat.le_of_ble_eq_true rfl)) d_K_swing_61 ⟨Nat.le_of_ble_eq_true rfl, Nat.le_of_ble_eq_true rfl⟩) hP hD hS hA [7, 8, 1, 2] rfl (by decide) (fun _ => rfl) (fun u7 H locs hw hP hD hS => ?_)
  obtain rfl : u7 = _ := hw.trans (ir_eq _).symm
  obtain ⟨hP, hD⟩ : va_P (dC, dI) cl9 (rk_w ad cL (rk_cpy 2 0 u_4)) H ∧ va_D A (rk_w ad cL (rk_cpy 2 0 u_4)) := ct_eqP (rkw2_2_0 ad cL u_4 _) hP hD
  generalize hg_u_5 : rk_cpy 2 0 u_4 = u_5 at hP hD
  refine lv_aload_n hx hb d_K_swing_64 rfl (lv_at hl 0 rfl) ?_
  refine va_get (D := (dC, dI)) (ci := 1) (v := .ref (ad 7)) (C := R_K) (T := F_K) (N := 5) hx hb ha ui_K hown hK hP 0 rfl rfl 2 (by decide) (ha _ wm_K_8) (fun _ h9 => h9) rfl d_K_swing_65 ?_
  refine lv_aload_n hx hb d_K_swing_68 rfl (lv_at hl 0 rfl) ?_
  refine va_get (D := (dC, dI)) (ci := 1) (v := .ref (ad 1)) (C := R_K) (T := F_K) (N := 5) hx hb ha ui_K hown hK hP 0 rfl rfl 0 (by decide) (ha _ wm_K_6) (fun _ h9 => h9) rfl d_K_swing_69 ?_
  refine cs_callv (va_runV (As := [.ref (ad 1)]) (rest := []) ⟨hx, hb, hml, hown, ha⟩ (c_W_multiply l dC dI (ad 7) (ad 8) (ad 9) (ad 1) (ad 2) (ad 3) cL (u_5 4) (u_5 0) (u_5 5) _) (cwV 1 ha g_K_W_multiply rfl rfl rfl (by decide +kernel) ⟨Nat.le_of_ble_eq_true rfl, Nat.le_of_ble_eq_true rfl⟩) (ct_preV ct_G0ok trivial hK hP hD hS hA [7, 8, 9, 1, 2] rfl (by decide) [0] rfl 7 0 rfl rfl rfl) rfl rfl hl.1 rfl (lv_room (Nat.le_of_ble_eq_true rfl)) d_K_swing_72 ⟨Nat.le_of_ble_eq_true rfl, Nat.le_of_ble_eq_true rfl⟩) hP hD hS hA [7, 8, 9, 1, 2] rfl (by decide) (fun _ => rfl) (fun u7 H locs hw hP hD hS => ?_)
  obtain ⟨u8, u9⟩ := u7
  obtain rfl : u8 = _ := hw.1.trans (ir_eq _).symm
  obtain rfl : u9 = _ := hw.2.trans (ir_eq _).symm
  obtain ⟨hP, hD⟩ : va_P (dC, dI) cl9 (rk_w ad cL (rk_mul 5 2 0 u_5)) H ∧ va_D A (rk_w ad cL (rk_mul 5 2 0 u_5)) := ct_eqP (rkwm_2_0 ad cL u_5 _ _) hP hD
  generalize hg_u_6 : rk_mul 5 2 0 u_5 = u_6 at hP hD
  refine lv_lload hx hb d_K_swing_75 (lv_at hl 3 rfl) ?_
  refine lv_iload_n hx hb d_K_swing_77 rfl (lv_at hl 2 rfl) ?_
  refine lv_i2l hx hb d_K_swing_78 rfl ?_
  refine lv_ladd hx hb d_K_swing_79 ?_
  refine lv_ldc2 (v := 3) hx hb hown (ha _ wm_K_54) d_K_swing_80 ?_
  refine lv_land hx hb d_K_swing_83 ?_
  refine lv_l2i hx hb d_K_swing_84 rfl ?_
  refine lv_istore (lv' := [(6, .int (((((sw_q mi) + ((qb : Int32).toInt64)) &&& 3) : Int64).toInt32)), (0, .ref (ad 0)), (1, .long mi), (3, .int qb), (4, .long (sw_q mi))]) hx hb d_K_swing_85 hl (by decide) rfl (fun ls hl => ?_)
  have hl : lv_has ls 8 [(0, .ref (ad 0)), (6, .int (sw_t mi qb))] := lv_sub hl [1, 0] rfl
  refine sg_sw1 (ad := ad) (cL := cL) (v := u_6) (t := sw_t mi qb) hF hA hK (Nat.le_of_ble_eq_true rfl) (Nat.le_of_ble_eq_true rfl) (Nat.le_of_ble_eq_true rfl) (Nat.le_of_ble_eq_true rfl) (fun z1 H locs ls hz1 hP hD hS hl => ?_) _ _ _ hP hD hS (lv_sub hl [0, 1] rfl)
  refine lv_iload hx hb d_K_swing_129 (lv_at hl 1 rfl) ?_
  refine lv_iconst (v := 2) hx hb d_K_swing_131 (by decide) ?_
  refine lv_icmp_lt (tgt := 142) hx hb d_K_swing_132 (by decide) (fun h3 => ?_) (fun h3 => ?_)
  · exact ct_vret hF d_K_swing_142 z1 (by subst hz1; subst hg_u_6; subst hg_u_5; subst hg_u_4; subst hg_u_3; subst hg_u_2; subst hg_u_1; exact (if_pos h3).symm) hP hD hK hS
  · refine lv_aload_n hx hb d_K_swing_135 rfl (lv_at hl 0 rfl) ?_
    refine va_get (D := (dC, dI)) (ci := 1) (v := .ref (ad 1)) (C := R_K) (T := F_K) (N := 5) hx hb ha ui_K hown hK hP 0 rfl rfl 0 (by decide) (ha _ wm_K_6) (fun _ h9 => h9) rfl d_K_swing_136 ?_
    refine cs_callv (va_runV (As := []) (rest := []) ⟨hx, hb, hml, hown, ha⟩ (c_W_negate l dC dI (ad 1) (ad 2) (ad 3) cL (z1 0) _) (cwV 0 ha g_K_W_negate rfl rfl rfl (by decide +kernel) ⟨Nat.le_of_ble_eq_true rfl, Nat.le_of_ble_eq_true rfl⟩) (ct_preV ct_G0ok trivial hK hP hD hS hA [1, 2] rfl (by decide) [0] rfl 1 0 rfl rfl rfl) rfl rfl hl.1 rfl (lv_room (Nat.le_of_ble_eq_true rfl)) d_K_swing_139 ⟨Nat.le_of_ble_eq_true rfl, Nat.le_of_ble_eq_true rfl⟩) hP hD hS hA [1, 2] rfl (by decide) (fun _ => rfl) (fun u7 H locs hw hP hD hS => ?_)
    obtain rfl : u7 = _ := hw.trans (ir_eq _).symm
    obtain ⟨hP, hD⟩ : va_P (dC, dI) cl9 (rk_w ad cL (rk_neg 0 z1)) H ∧ va_D A (rk_w ad cL (rk_neg 0 z1)) := ct_eqP (rkw1_0 ad cL z1 _) hP hD
    generalize hg_u_7 : rk_neg 0 z1 = u_7 at hP hD
    exact ct_vret hF d_K_swing_142 u_7 (by subst hg_u_7; subst hz1; subst hg_u_6; subst hg_u_5; subst hg_u_4; subst hg_u_3; subst hg_u_2; subst hg_u_1; exact (if_neg h3).symm) hP hD hK hS
