def rk_oz (z : Int32) (i : Nat) : Int32 := if z = 0 then 0 else if nI (2 * i + 3) &&& 2 = 0 then 0 else 1
def rk_oB (z : Int32) (i : Nat) (u : rk_U) : rk_U := rk_as 0 3 (rk_oz z i) (rk_dv 3 (nI (2 * i + 3)).toInt64 (rk_cpy 3 1 (rk_mul 5 1 2 u)))
def rk_oE (z : Int32) (u : rk_U) : rk_U := rk_it (rk_oB z) (rk_stop (fun i => wr_z (rk_it (rk_oB z) i u 2)) 199 0) u
def rk_odd (z : Int32) (u : rk_U) : rk_U := rk_oE z (rk_mul 5 2 0 (rk_cpy 2 0 (rk_cpy 1 0 u)))
set_option maxHeartbeats 1000000 in
set_option maxRecDepth 100000 in
/-- a series of odd powers -/
theorem lp_K_sumOdd {p : Program} {l : Launch} {e : Env} {R : Room} {s : State} {m : MethodId} {args : Array Value} {below : List Frame} {meth : Method} {c : Code} {Q : State → Prop} {A : Nat → Prop} {cells slots : Nat} {dC : Nat → ClassId} {dI : Nat → Nat → Nat} {ad : Nat → Nat} {cL : ClassId} {u : rk_U} {z : Int32} (hF : ct_F p s m meth c b_K_sumOddPowers none 3 w_K_sumOddPowers y_K_sumOddPowers args) (hA : ∀ q, s.heap.size ≤ q → A q) (hK : va_K (dC, dI) cl9 [(cL, .long)] s) (hRf : 3 ≤ R.frames) (hRl : 77 ≤ R.locals) (hRc : cells ≤ R.cells) (hRs : slots ≤ R.slots) 
    (K : ∀ (H : Heap) (locs : List Loc) (ls : Array Slot), va_P (dC, dI) cl9 (rk_w ad cL (rk_it (rk_oB z) (rk_stop (fun i => wr_z (rk_it (rk_oB z) i u 2)) 199 0) u)) H → va_D A (rk_w ad cL (rk_it (rk_oB z) (rk_stop (fun i => wr_z (rk_it (rk_oB z) i u 2)) 199 0) u)) → va_S A s.heap H locs → lv_has ls 3 [(0, .ref (ad 0))] → W p l e R s m args below meth c H locs cells slots Q (F0 m 115 ls [])) :
    ∀ (n9 i : Nat), i + n9 = 199 → (rk_stop (fun i => wr_z (rk_it (rk_oB z) i u 2)) 199 0 = rk_stop (fun i => wr_z (rk_it (rk_oB z) i u 2)) n9 i) → ∀ (H : Heap) (locs : List Loc) (ls : Array Slot), va_P (dC, dI) cl9 (rk_w ad cL (rk_it (rk_oB z) i u)) H → va_D A (rk_w ad cL (rk_it (rk_oB z) i u)) → va_S A s.heap H locs → lv_has ls 3 [(0, .ref (ad 0)), (1, .int z), (2, .int (nI (2 * i + 3)))] → W p l e R s m args below meth c H locs cells slots Q (F0 m 35 ls []) := by
  obtain ⟨hx, hb, hr, hml, hts, hown, hlocks, hnm⟩ := id hF
  have hown : s.vm.findClass R_K = some m.cls := hown
  have ha : ∀ w ∈ al_K, w.before args s = true := fun w h => hts w (List.mem_cons_of_mem _ h)
  intro n9
  induction n9 with
  | zero =>
    intro i hi hinv H locs ls hP hD hS hl
    obtain rfl : 199 = i := by omega
    refine lv_iload_n hx hb d_K_sumOddPowers_35 rfl (lv_at hl 2 rfl) ?_
    refine lv_sipush (v := 400) hx hb d_K_sumOddPowers_36 (by decide) ?_
    refine lv_icmp_ge (tgt := 115) hx hb d_K_sumOddPowers_39 (by decide) (fun hc => ?_) (fun hc => ?_)
    · have e9 : rk_it (rk_oB z) (rk_stop (fun i => wr_z (rk_it (rk_oB z) i u 2)) 199 0) u = rk_it (rk_oB z) 199 u := congrArg (fun k => rk_it (rk_oB z) k u) hinv
      exact K _ _ _ (by rw [e9]; exact hP) (by rw [e9]; exact hD) hS (lv_sub hl [0] rfl)
    · exact absurd (show nI 400 ≤ nI (2 * 199 + 3) from nI_le (by omega) (by omega)) hc
  | succ n9 ih =>
    intro i hi hinv H locs ls hP hD hS hl
    have hlt : i < 199 := by omega
    refine lv_iload_n hx hb d_K_sumOddPowers_35 rfl (lv_at hl 2 rfl) ?_
    refine lv_sipush (v := 400) hx hb d_K_sumOddPowers_36 (by decide) ?_
    refine lv_icmp_ge (tgt := 115) hx hb d_K_sumOddPowers_39 (by decide) (fun hc => ?_) (fun hc => ?_)
    · exact absurd (show nI 400 ≤ nI (2 * i + 3) from hc) (nI_ge (by omega) (by omega))
    · refine lv_aload_n hx hb d_K_sumOddPowers_42 rfl (lv_at hl 0 rfl) ?_
      refine va_get (D := (dC, dI)) (ci := 1) (v := .ref (ad 4)) (C := R_K) (T := F_K) (N := 5) hx hb ha ui_K hown hK hP 0 rfl rfl 1 (by decide) (ha _ wm_K_7) (fun _ h9 => h9) rfl d_K_sumOddPowers_43 ?_
      refine cs_calli (va_runV (As := []) (rest := []) ⟨hx, hb, hml, hown, ha⟩ (c_W_isZero l dC dI (ad 4) (ad 5) (ad 6) cL ((rk_it (rk_oB z) i u) 2) _) (cwV 0 ha g_K_W_isZero rfl rfl rfl (by decide +kernel) ⟨Nat.le_trans (Nat.le_of_ble_eq_true rfl) hRf, Nat.le_trans (Nat.le_of_ble_eq_true rfl) hRl⟩) (ct_preV ct_G0ok trivial hK hP hD hS hA [4, 5] rfl (by decide) [0] rfl 4 0 rfl rfl rfl) rfl rfl hl.1 rfl (lv_room (Nat.le_of_ble_eq_true rfl)) d_K_sumOddPowers_46 ⟨hRc, hRs⟩) hP hD hS hA [4, 5] rfl (by decide) (fun _ => rfl) (fun r9 u7 H locs hw hP hD hS => ?_)
      obtain rfl : r9 = wr_z ((rk_it (rk_oB z) i u) 2) := hw.trans (ir_eq _).symm
      obtain ⟨hP, hD⟩ : va_P (dC, dI) cl9 (rk_w ad cL (rk_it (rk_oB z) i u)) H ∧ va_D A (rk_w ad cL (rk_it (rk_oB z) i u)) := ct_eqP (rkw0_1 ad cL (rk_it (rk_oB z) i u)) hP hD
      refine lv_if_ne (tgt := 115) hx hb d_K_sumOddPowers_49 (by decide) (fun hz => ?_) (fun hz => ?_)
      · have e9 : rk_it (rk_oB z) (rk_stop (fun i => wr_z (rk_it (rk_oB z) i u 2)) 199 0) u = rk_it (rk_oB z) i u := congrArg (fun k => rk_it (rk_oB z) k u) (hinv.trans (if_neg hz))
        exact K _ _ _ (by rw [e9]; exact hP) (by rw [e9]; exact hD) hS (lv_sub hl [0] rfl)
      · refine lv_aload_n hx hb d_K_sumOddPowers_52 rfl (lv_at hl 0 rfl) ?_
        refine va_get (D := (dC, dI)) (ci := 1) (v := .ref (ad 4)) (C := R_K) (T := F_K) (N := 5) hx hb ha ui_K hown hK hP 0 rfl rfl 1 (by decide) (ha _ wm_K_7) (fun _ h9 => h9) rfl d_K_sumOddPowers_53 ?_
        refine lv_aload_n hx hb d_K_sumOddPowers_56 rfl (lv_at hl 0 rfl) ?_
        refine va_get (D := (dC, dI)) (ci := 1) (v := .ref (ad 7)) (C := R_K) (T := F_K) (N := 5) hx hb ha ui_K hown hK hP 0 rfl rfl 2 (by decide) (ha _ wm_K_8) (fun _ h9 => h9) rfl d_K_sumOddPowers_57 ?_
        refine cs_callv (va_runV (As := [.ref (ad 7)]) (rest := []) ⟨hx, hb, hml, hown, ha⟩ (c_W_multiply l dC dI (ad 4) (ad 5) (ad 6) (ad 7) (ad 8) (ad 9) cL ((rk_it (rk_oB z) i u) 2) ((rk_it (rk_oB z) i u) 4) ((rk_it (rk_oB z) i u) 3) _) (cwV 1 ha g_K_W_multiply rfl rfl rfl (by decide +kernel) ⟨Nat.le_trans (Nat.le_of_ble_eq_true rfl) hRf, Nat.le_trans (Nat.le_of_ble_eq_true rfl) hRl⟩) (ct_preV ct_G0ok trivial hK hP hD hS hA [4, 5, 6, 7, 8] rfl (by decide) [0] rfl 4 0 rfl rfl rfl) rfl rfl hl.1 rfl (lv_room (Nat.le_of_ble_eq_true rfl)) d_K_sumOddPowers_60 ⟨hRc, hRs⟩) hP hD hS hA [4, 5, 6, 7, 8] rfl (by decide) (fun _ => rfl) (fun u7 H locs hw hP hD hS => ?_)
        obtain ⟨u8, u9⟩ := u7
        obtain rfl : u8 = _ := hw.1.trans (ir_eq _).symm
        obtain rfl : u9 = _ := hw.2.trans (ir_eq _).symm
        obtain ⟨hP, hD⟩ : va_P (dC, dI) cl9 (rk_w ad cL (rk_mul 5 1 2 (rk_it (rk_oB z) i u))) H ∧ va_D A (rk_w ad cL (rk_mul 5 1 2 (rk_it (rk_oB z) i u))) := ct_eqP (rkwm_1_2 ad cL (rk_it (rk_oB z) i u) _ _) hP hD
        refine lv_aload_n hx hb d_K_sumOddPowers_63 rfl (lv_at hl 0 rfl) ?_
        refine va_get (D := (dC, dI)) (ci := 1) (v := .ref (ad 10)) (C := R_K) (T := F_K) (N := 5) hx hb ha ui_K hown hK hP 0 rfl rfl 3 (by decide) (ha _ wm_K_9) (fun _ h9 => h9) rfl d_K_sumOddPowers_64 ?_
        refine lv_aload_n hx hb d_K_sumOddPowers_67 rfl (lv_at hl 0 rfl) ?_
        refine va_get (D := (dC, dI)) (ci := 1) (v := .ref (ad 4)) (C := R_K) (T := F_K) (N := 5) hx hb ha ui_K hown hK hP 0 rfl rfl 1 (by decide) (ha _ wm_K_7) (fun _ h9 => h9) rfl d_K_sumOddPowers_68 ?_
        refine cs_callv (va_runV (As := [.ref (ad 4)]) (rest := []) ⟨hx, hb, hml, hown, ha⟩ (c_W_loadWide l dC dI (ad 10) (ad 11) (ad 12) (ad 4) (ad 5) (ad 6) cL ((rk_mul 5 1 2 (rk_it (rk_oB z) i u)) 6) ((rk_mul 5 1 2 (rk_it (rk_oB z) i u)) 2) _) (cwV 1 ha g_K_W_loadWide rfl rfl rfl (by decide +kernel) ⟨Nat.le_trans (Nat.le_of_ble_eq_true rfl) hRf, Nat.le_trans (Nat.le_of_ble_eq_true rfl) hRl⟩) (ct_preV ct_G0ok trivial hK hP hD hS hA [10, 11, 4, 5] rfl (by decide) [0] rfl 10 0 rfl rfl rfl) rfl rfl hl.1 rfl (lv_room (Nat.le_of_ble_eq_true rfl)) d_K_sumOddPowers_71 ⟨hRc, hRs⟩) hP hD hS hA [10, 11, 4, 5] rfl (by decide) (fun _ => rfl) (fun u7 H locs hw hP hD hS => ?_)
        obtain rfl : u7 = _ := hw.trans (ir_eq _).symm
        obtain ⟨hP, hD⟩ : va_P (dC, dI) cl9 (rk_w ad cL (rk_cpy 3 1 (rk_mul 5 1 2 (rk_it (rk_oB z) i u)))) H ∧ va_D A (rk_w ad cL (rk_cpy 3 1 (rk_mul 5 1 2 (rk_it (rk_oB z) i u)))) := ct_eqP (rkw2_3_1 ad cL (rk_mul 5 1 2 (rk_it (rk_oB z) i u)) _) hP hD
        refine lv_aload_n hx hb d_K_sumOddPowers_74 rfl (lv_at hl 0 rfl) ?_
        refine va_get (D := (dC, dI)) (ci := 1) (v := .ref (ad 10)) (C := R_K) (T := F_K) (N := 5) hx hb ha ui_K hown hK hP 0 rfl rfl 3 (by decide) (ha _ wm_K_9) (fun _ h9 => h9) rfl d_K_sumOddPowers_75 ?_
        refine lv_iload_n hx hb d_K_sumOddPowers_78 rfl (lv_at hl 2 rfl) ?_
        refine lv_i2l hx hb d_K_sumOddPowers_79 rfl ?_
        refine cs_callv (va_runV (As := [.long (((nI (2 * i + 3)) : Int32).toInt64)]) (rest := []) ⟨hx, hb, hml, hown, ha⟩ (c_W_divide l dC dI (ad 10) (ad 11) (ad 12) cL ((rk_cpy 3 1 (rk_mul 5 1 2 (rk_it (rk_oB z) i u))) 6) (((nI (2 * i + 3)) : Int32).toInt64) _) (cwV 1 ha g_K_W_divide rfl rfl rfl (by decide +kernel) ⟨Nat.le_trans (Nat.le_of_ble_eq_true rfl) hRf, Nat.le_trans (Nat.le_of_ble_eq_true rfl) hRl⟩) (ct_preV ct_G0ok trivial hK hP hD hS hA [10, 11] rfl (by decide) [0] rfl 10 0 rfl rfl rfl) rfl rfl hl.1 rfl (lv_room (Nat.le_of_ble_eq_true rfl)) d_K_sumOddPowers_80 ⟨hRc, hRs⟩) hP hD hS hA [10, 11] rfl (by decide) (fun _ => rfl) (fun u7 H locs hw hP hD hS => ?_)
        obtain rfl : u7 = _ := hw.trans (ir_eq _).symm
        obtain ⟨hP, hD⟩ : va_P (dC, dI) cl9 (rk_w ad cL (rk_dv 3 (((nI (2 * i + 3)) : Int32).toInt64) (rk_cpy 3 1 (rk_mul 5 1 2 (rk_it (rk_oB z) i u))))) H ∧ va_D A (rk_w ad cL (rk_dv 3 (((nI (2 * i + 3)) : Int32).toInt64) (rk_cpy 3 1 (rk_mul 5 1 2 (rk_it (rk_oB z) i u))))) := ct_eqP (rkw1_3 ad cL (rk_cpy 3 1 (rk_mul 5 1 2 (rk_it (rk_oB z) i u))) _) hP hD
        refine lv_aload_n hx hb d_K_sumOddPowers_83 rfl (lv_at hl 0 rfl) ?_
        refine va_get (D := (dC, dI)) (ci := 1) (v := .ref (ad 1)) (C := R_K) (T := F_K) (N := 5) hx hb ha ui_K hown hK hP 0 rfl rfl 0 (by decide) (ha _ wm_K_6) (fun _ h9 => h9) rfl d_K_sumOddPowers_84 ?_
        refine lv_aload_n hx hb d_K_sumOddPowers_87 rfl (lv_at hl 0 rfl) ?_
        refine va_get (D := (dC, dI)) (ci := 1) (v := .ref (ad 10)) (C := R_K) (T := F_K) (N := 5) hx hb ha ui_K hown hK hP 0 rfl rfl 3 (by decide) (ha _ wm_K_9) (fun _ h9 => h9) rfl d_K_sumOddPowers_88 ?_
        refine lv_iload_n hx hb d_K_sumOddPowers_91 rfl (lv_at hl 1 rfl) ?_
        refine lv_if_eq (tgt := 105) hx hb d_K_sumOddPowers_92 (by decide) (fun h1 => ?_) (fun h1 => ?_)
        · refine lv_iconst (v := 0) hx hb d_K_sumOddPowers_105 (by decide) ?_
          refine cs_callv (va_runV (As := [.ref (ad 10), .int 0]) (rest := []) ⟨hx, hb, hml, hown, ha⟩ (c_W_addOrSubtract l dC dI (ad 1) (ad 2) (ad 3) (ad 10) (ad 11) (ad 12) cL ((rk_dv 3 (((nI (2 * i + 3)) : Int32).toInt64) (rk_cpy 3 1 (rk_mul 5 1 2 (rk_it (rk_oB z) i u)))) 0) ((rk_dv 3 (((nI (2 * i + 3)) : Int32).toInt64) (rk_cpy 3 1 (rk_mul 5 1 2 (rk_it (rk_oB z) i u)))) 6) 0 _) (cwV 2 ha g_K_W_addOrSubtract rfl rfl rfl (by decide +kernel) ⟨Nat.le_trans (Nat.le_of_ble_eq_true rfl) hRf, Nat.le_trans (Nat.le_of_ble_eq_true rfl) hRl⟩) (ct_preV ct_G0ok trivial hK hP hD hS hA [1, 2, 10, 11] rfl (by decide) [0] rfl 1 0 rfl rfl rfl) rfl rfl hl.1 rfl (lv_room (Nat.le_of_ble_eq_true rfl)) d_K_sumOddPowers_106 ⟨hRc, hRs⟩) hP hD hS hA [1, 2, 10, 11] rfl (by decide) (fun _ => rfl) (fun u7 H locs hw hP hD hS => ?_)
          obtain rfl : u7 = _ := hw.trans (ir_eq _).symm
          obtain ⟨hP, hD⟩ : va_P (dC, dI) cl9 (rk_w ad cL (rk_as 0 3 0 (rk_dv 3 (((nI (2 * i + 3)) : Int32).toInt64) (rk_cpy 3 1 (rk_mul 5 1 2 (rk_it (rk_oB z) i u)))))) H ∧ va_D A (rk_w ad cL (rk_as 0 3 0 (rk_dv 3 (((nI (2 * i + 3)) : Int32).toInt64) (rk_cpy 3 1 (rk_mul 5 1 2 (rk_it (rk_oB z) i u)))))) := ct_eqP (rkw2_0_3 ad cL (rk_dv 3 (((nI (2 * i + 3)) : Int32).toInt64) (rk_cpy 3 1 (rk_mul 5 1 2 (rk_it (rk_oB z) i u)))) _) hP hD
          refine lv_iinc (v := (nI (2 * (i + 1) + 3))) (lv' := [(2, .int (nI (2 * (i + 1) + 3))), (0, .ref (ad 0)), (1, .int z)]) hx hb d_K_sumOddPowers_109 hl (k := 2) rfl (by exact nI_add (2 * i + 3) 2) (by decide) rfl (fun ls hl => ?_)
          refine lv_goto (tgt := 35) hx hb d_K_sumOddPowers_112 (by decide) ?_
          have e9 : rk_it (rk_oB z) (i + 1) u = rk_as 0 3 0 (rk_dv 3 (((nI (2 * i + 3)) : Int32).toInt64) (rk_cpy 3 1 (rk_mul 5 1 2 (rk_it (rk_oB z) i u)))) := congrArg (fun z8 => rk_as 0 3 z8 (rk_dv 3 (nI (2 * i + 3)).toInt64 (rk_cpy 3 1 (rk_mul 5 1 2 (rk_it (rk_oB z) i u))))) (if_pos h1)
          exact ih (i + 1) (by omega) (hinv.trans (if_pos hz)) _ _ _ (by rw [e9]; exact hP) (by rw [e9]; exact hD) hS (lv_sub hl [1, 2, 0] rfl)
        · refine lv_iload_n hx hb d_K_sumOddPowers_95 rfl (lv_at hl 2 rfl) ?_
          refine lv_iconst (v := 2) hx hb d_K_sumOddPowers_96 (by decide) ?_
          refine lv_iand hx hb d_K_sumOddPowers_97 ?_
          refine lv_if_eq (tgt := 105) hx hb d_K_sumOddPowers_98 (by decide) (fun h2 => ?_) (fun h2 => ?_)
          · refine lv_iconst (v := 0) hx hb d_K_sumOddPowers_105 (by decide) ?_
            refine cs_callv (va_runV (As := [.ref (ad 10), .int 0]) (rest := []) ⟨hx, hb, hml, hown, ha⟩ (c_W_addOrSubtract l dC dI (ad 1) (ad 2) (ad 3) (ad 10) (ad 11) (ad 12) cL ((rk_dv 3 (((nI (2 * i + 3)) : Int32).toInt64) (rk_cpy 3 1 (rk_mul 5 1 2 (rk_it (rk_oB z) i u)))) 0) ((rk_dv 3 (((nI (2 * i + 3)) : Int32).toInt64) (rk_cpy 3 1 (rk_mul 5 1 2 (rk_it (rk_oB z) i u)))) 6) 0 _) (cwV 2 ha g_K_W_addOrSubtract rfl rfl rfl (by decide +kernel) ⟨Nat.le_trans (Nat.le_of_ble_eq_true rfl) hRf, Nat.le_trans (Nat.le_of_ble_eq_true rfl) hRl⟩) (ct_preV ct_G0ok trivial hK hP hD hS hA [1, 2, 10, 11] rfl (by decide) [0] rfl 1 0 rfl rfl rfl) rfl rfl hl.1 rfl (lv_room (Nat.le_of_ble_eq_true rfl)) d_K_sumOddPowers_106 ⟨hRc, hRs⟩) hP hD hS hA [1, 2, 10, 11] rfl (by decide) (fun _ => rfl) (fun u7 H locs hw hP hD hS => ?_)
            obtain rfl : u7 = _ := hw.trans (ir_eq _).symm
            obtain ⟨hP, hD⟩ : va_P (dC, dI) cl9 (rk_w ad cL (rk_as 0 3 0 (rk_dv 3 (((nI (2 * i + 3)) : Int32).toInt64) (rk_cpy 3 1 (rk_mul 5 1 2 (rk_it (rk_oB z) i u)))))) H ∧ va_D A (rk_w ad cL (rk_as 0 3 0 (rk_dv 3 (((nI (2 * i + 3)) : Int32).toInt64) (rk_cpy 3 1 (rk_mul 5 1 2 (rk_it (rk_oB z) i u)))))) := ct_eqP (rkw2_0_3 ad cL (rk_dv 3 (((nI (2 * i + 3)) : Int32).toInt64) (rk_cpy 3 1 (rk_mul 5 1 2 (rk_it (rk_oB z) i u)))) _) hP hD
            refine lv_iinc (v := (nI (2 * (i + 1) + 3))) (lv' := [(2, .int (nI (2 * (i + 1) + 3))), (0, .ref (ad 0)), (1, .int z)]) hx hb d_K_sumOddPowers_109 hl (k := 2) rfl (by exact nI_add (2 * i + 3) 2) (by decide) rfl (fun ls hl => ?_)
            refine lv_goto (tgt := 35) hx hb d_K_sumOddPowers_112 (by decide) ?_
            have e9 : rk_it (rk_oB z) (i + 1) u = rk_as 0 3 0 (rk_dv 3 (((nI (2 * i + 3)) : Int32).toInt64) (rk_cpy 3 1 (rk_mul 5 1 2 (rk_it (rk_oB z) i u)))) := congrArg (fun z8 => rk_as 0 3 z8 (rk_dv 3 (nI (2 * i + 3)).toInt64 (rk_cpy 3 1 (rk_mul 5 1 2 (rk_it (rk_oB z) i u))))) ((if_neg h1).trans (if_pos h2))
            exact ih (i + 1) (by omega) (hinv.trans (if_pos hz)) _ _ _ (by rw [e9]; exact hP) (by rw [e9]; exact hD) hS (lv_sub hl [1, 2, 0] rfl)
          · refine lv_iconst (v := 1) hx hb d_K_sumOddPowers_101 (by decide) ?_
            refine lv_goto (tgt := 106) hx hb d_K_sumOddPowers_102 (by decide) ?_
            refine cs_callv (va_runV (As := [.ref (ad 10), .int 1]) (rest := []) ⟨hx, hb, hml, hown, ha⟩ (c_W_addOrSubtract l dC dI (ad 1) (ad 2) (ad 3) (ad 10) (ad 11) (ad 12) cL ((rk_dv 3 (((nI (2 * i + 3)) : Int32).toInt64) (rk_cpy 3 1 (rk_mul 5 1 2 (rk_it (rk_oB z) i u)))) 0) ((rk_dv 3 (((nI (2 * i + 3)) : Int32).toInt64) (rk_cpy 3 1 (rk_mul 5 1 2 (rk_it (rk_oB z) i u)))) 6) 1 _) (cwV 2 ha g_K_W_addOrSubtract rfl rfl rfl (by decide +kernel) ⟨Nat.le_trans (Nat.le_of_ble_eq_true rfl) hRf, Nat.le_trans (Nat.le_of_ble_eq_true rfl) hRl⟩) (ct_preV ct_G0ok trivial hK hP hD hS hA [1, 2, 10, 11] rfl (by decide) [0] rfl 1 0 rfl rfl rfl) rfl rfl hl.1 rfl (lv_room (Nat.le_of_ble_eq_true rfl)) d_K_sumOddPowers_106 ⟨hRc, hRs⟩) hP hD hS hA [1, 2, 10, 11] rfl (by decide) (fun _ => rfl) (fun u7 H locs hw hP hD hS => ?_)
            obtain rfl : u7 = _ := hw.trans (ir_eq _).symm
            obtain ⟨hP, hD⟩ : va_P (dC, dI) cl9 (rk_w ad cL (rk_as 0 3 1 (rk_dv 3 (((nI (2 * i + 3)) : Int32).toInt64) (rk_cpy 3 1 (rk_mul 5 1 2 (rk_it (rk_oB z) i u)))))) H ∧ va_D A (rk_w ad cL (rk_as 0 3 1 (rk_dv 3 (((nI (2 * i + 3)) : Int32).toInt64) (rk_cpy 3 1 (rk_mul 5 1 2 (rk_it (rk_oB z) i u)))))) := ct_eqP (rkw2_0_3 ad cL (rk_dv 3 (((nI (2 * i + 3)) : Int32).toInt64) (rk_cpy 3 1 (rk_mul 5 1 2 (rk_it (rk_oB z) i u)))) _) hP hD
            refine lv_iinc (v := (nI (2 * (i + 1) + 3))) (lv' := [(2, .int (nI (2 * (i + 1) + 3))), (0, .ref (ad 0)), (1, .int z)]) hx hb d_K_sumOddPowers_109 hl (k := 2) rfl (by exact nI_add (2 * i + 3) 2) (by decide) rfl (fun ls hl => ?_)
            refine lv_goto (tgt := 35) hx hb d_K_sumOddPowers_112 (by decide) ?_
            have e9 : rk_it (rk_oB z) (i + 1) u = rk_as 0 3 1 (rk_dv 3 (((nI (2 * i + 3)) : Int32).toInt64) (rk_cpy 3 1 (rk_mul 5 1 2 (rk_it (rk_oB z) i u)))) := congrArg (fun z8 => rk_as 0 3 z8 (rk_dv 3 (nI (2 * i + 3)).toInt64 (rk_cpy 3 1 (rk_mul 5 1 2 (rk_it (rk_oB z) i u))))) ((if_neg h1).trans (if_neg h2))
            exact ih (i + 1) (by omega) (hinv.trans (if_pos hz)) _ _ _ (by rw [e9]; exact hP) (by rw [e9]; exact hD) hS (lv_sub hl [1, 2, 0] rfl)
set_option maxHeartbeats 1000000 in
set_option maxRecDepth 100000 in
/-- the sum of odd powers -/
theorem c_K_sumOddPowers (l : Launch) (dC : Nat → ClassId) (dI : Nat → Nat → Nat) (ad : Nat → Nat) (cL : ClassId) (u : rk_U) (z : Int32) (sz : Nat) : ct_V l y_K_sumOddPowers w_K_sumOddPowers { frames := 3, cells := 0, slots := 0, locals := 77 } (dC, dI) cl9 [(cL, .long)] ct_G0 [.ref (ad 0), .int z] (rk_w ad cL u) sz (S := rk_U) (fun u' : rk_U => u' = rk_odd z u) (fun _ : rk_U => [(cL, .long)]) (fun u' : rk_U => rk_w ad cL u') 0 0 := by
  refine ct_of (Qf := fun A => va_Qv (fun u' : rk_U => u' = rk_odd z u) (ct_B (S := rk_U) (dC, dI) cl9 (fun _ : rk_U => [(cL, .long)]) A (fun u' : rk_U => rk_w ad cL u')) A) (cc := b_K_sumOddPowers) (maxL := 3) (ret := none) (by decide) rfl (Nat.le_of_ble_eq_true rfl) ?_
  intro p e s m below meth c A ls hF hA hP hK hD hG hS hl
  obtain ⟨hx, hb, hr, hml, hts, hown, hlocks, hnm⟩ := id hF
  have hown : s.vm.findClass R_K = some m.cls := hown
  have ha : ∀ w ∈ al_K, w.before [.ref (ad 0), .int z].toArray s = true := fun w h => hts w (List.mem_cons_of_mem _ h)
  have hl : lv_has ls 3 [(0, .ref (ad 0)), (1, .int z)] := hl
  refine lv_aload_n hx hb d_K_sumOddPowers_0 rfl (lv_at hl 0 rfl) ?_
  refine va_get (D := (dC, dI)) (ci := 1) (v := .ref (ad 4)) (C := R_K) (T := F_K) (N := 5) hx hb ha ui_K hown hK hP 0 rfl rfl 1 (by decide) (ha _ wm_K_7) (fun _ h9 => h9) rfl d_K_sumOddPowers_1 ?_
  refine lv_aload_n hx hb d_K_sumOddPowers_4 rfl (lv_at hl 0 rfl) ?_
  refine va_get (D := (dC, dI)) (ci := 1) (v := .ref (ad 1)) (C := R_K) (T := F_K) (N := 5) hx hb ha ui_K hown hK hP 0 rfl rfl 0 (by decide) (ha _ wm_K_6) (fun _ h9 => h9) rfl d_K_sumOddPowers_5 ?_
  refine cs_callv (va_runV (As := [.ref (ad 1)]) (rest := []) ⟨hx, hb, hml, hown, ha⟩ (c_W_loadWide l dC dI (ad 4) (ad 5) (ad 6) (ad 1) (ad 2) (ad 3) cL (u 2) (u 0) _) (cwV 1 ha g_K_W_loadWide rfl rfl rfl (by decide +kernel) ⟨Nat.le_of_ble_eq_true rfl, Nat.le_of_ble_eq_true rfl⟩) (ct_preV ct_G0ok trivial hK hP hD hS hA [4, 5, 1, 2] rfl (by decide) [0] rfl 4 0 rfl rfl rfl) rfl rfl hl.1 rfl (lv_room (Nat.le_of_ble_eq_true rfl)) d_K_sumOddPowers_8 ⟨Nat.le_of_ble_eq_true rfl, Nat.le_of_ble_eq_true rfl⟩) hP hD hS hA [4, 5, 1, 2] rfl (by decide) (fun _ => rfl) (fun u7 H locs hw hP hD hS => ?_)
  obtain rfl : u7 = _ := hw.trans (ir_eq _).symm
  obtain ⟨hP, hD⟩ : va_P (dC, dI) cl9 (rk_w ad cL (rk_cpy 1 0 u)) H ∧ va_D A (rk_w ad cL (rk_cpy 1 0 u)) := ct_eqP (rkw2_1_0 ad cL u _) hP hD
  refine lv_aload_n hx hb d_K_sumOddPowers_11 rfl (lv_at hl 0 rfl) ?_
  refine va_get (D := (dC, dI)) (ci := 1) (v := .ref (ad 7)) (C := R_K) (T := F_K) (N := 5) hx hb ha ui_K hown hK hP 0 rfl rfl 2 (by decide) (ha _ wm_K_8) (fun _ h9 => h9) rfl d_K_sumOddPowers_12 ?_
  refine lv_aload_n hx hb d_K_sumOddPowers_15 rfl (lv_at hl 0 rfl) ?_
  refine va_get (D := (dC, dI)) (ci := 1) (v := .ref (ad 1)) (C := R_K) (T := F_K) (N := 5) hx hb ha ui_K hown hK hP 0 rfl rfl 0 (by decide) (ha _ wm_K_6) (fun _ h9 => h9) rfl d_K_sumOddPowers_16 ?_
  refine cs_callv (va_runV (As := [.ref (ad 1)]) (rest := []) ⟨hx, hb, hml, hown, ha⟩ (c_W_loadWide l dC dI (ad 7) (ad 8) (ad 9) (ad 1) (ad 2) (ad 3) cL ((rk_cpy 1 0 u) 4) ((rk_cpy 1 0 u) 0) _) (cwV 1 ha g_K_W_loadWide rfl rfl rfl (by decide +kernel) ⟨Nat.le_of_ble_eq_true rfl, Nat.le_of_ble_eq_true rfl⟩) (ct_preV ct_G0ok trivial hK hP hD hS hA [7, 8, 1, 2] rfl (by decide) [0] rfl 7 0 rfl rfl rfl) rfl rfl hl.1 rfl (lv_room (Nat.le_of_ble_eq_true rfl)) d_K_sumOddPowers_19 ⟨Nat.le_of_ble_eq_true rfl, Nat.le_of_ble_eq_true rfl⟩) hP hD hS hA [7, 8, 1, 2] rfl (by decide) (fun _ => rfl) (fun u7 H locs hw hP hD hS => ?_)
  obtain rfl : u7 = _ := hw.trans (ir_eq _).symm
  obtain ⟨hP, hD⟩ : va_P (dC, dI) cl9 (rk_w ad cL (rk_cpy 2 0 (rk_cpy 1 0 u))) H ∧ va_D A (rk_w ad cL (rk_cpy 2 0 (rk_cpy 1 0 u))) := ct_eqP (rkw2_2_0 ad cL (rk_cpy 1 0 u) _) hP hD
  refine lv_aload_n hx hb d_K_sumOddPowers_22 rfl (lv_at hl 0 rfl) ?_
  refine va_get (D := (dC, dI)) (ci := 1) (v := .ref (ad 7)) (C := R_K) (T := F_K) (N := 5) hx hb ha ui_K hown hK hP 0 rfl rfl 2 (by decide) (ha _ wm_K_8) (fun _ h9 => h9) rfl d_K_sumOddPowers_23 ?_
  refine lv_aload_n hx hb d_K_sumOddPowers_26 rfl (lv_at hl 0 rfl) ?_
  refine va_get (D := (dC, dI)) (ci := 1) (v := .ref (ad 1)) (C := R_K) (T := F_K) (N := 5) hx hb ha ui_K hown hK hP 0 rfl rfl 0 (by decide) (ha _ wm_K_6) (fun _ h9 => h9) rfl d_K_sumOddPowers_27 ?_
  refine cs_callv (va_runV (As := [.ref (ad 1)]) (rest := []) ⟨hx, hb, hml, hown, ha⟩ (c_W_multiply l dC dI (ad 7) (ad 8) (ad 9) (ad 1) (ad 2) (ad 3) cL ((rk_cpy 2 0 (rk_cpy 1 0 u)) 4) ((rk_cpy 2 0 (rk_cpy 1 0 u)) 0) ((rk_cpy 2 0 (rk_cpy 1 0 u)) 5) _) (cwV 1 ha g_K_W_multiply rfl rfl rfl (by decide +kernel) ⟨Nat.le_of_ble_eq_true rfl, Nat.le_of_ble_eq_true rfl⟩) (ct_preV ct_G0ok trivial hK hP hD hS hA [7, 8, 9, 1, 2] rfl (by decide) [0] rfl 7 0 rfl rfl rfl) rfl rfl hl.1 rfl (lv_room (Nat.le_of_ble_eq_true rfl)) d_K_sumOddPowers_30 ⟨Nat.le_of_ble_eq_true rfl, Nat.le_of_ble_eq_true rfl⟩) hP hD hS hA [7, 8, 9, 1, 2] rfl (by decide) (fun _ => rfl) (fun u7 H locs hw hP hD hS => ?_)
  obtain ⟨u8, u9⟩ := u7
  obtain rfl : u8 = _ := hw.1.trans (ir_eq _).symm
  obtain rfl : u9 = _ := hw.2.trans (ir_eq _).symm
  obtain ⟨hP, hD⟩ : va_P (dC, dI) cl9 (rk_w ad cL (rk_mul 5 2 0 (rk_cpy 2 0 (rk_cpy 1 0 u)))) H ∧ va_D A (rk_w ad cL (rk_mul 5 2 0 (rk_cpy 2 0 (rk_cpy 1 0 u)))) := ct_eqP (rkwm_2_0 ad cL (rk_cpy 2 0 (rk_cpy 1 0 u)) _ _) hP hD
  refine lv_iconst (v := 3) hx hb d_K_sumOddPowers_33 (by decide) ?_
  refine lv_istore_n (lv' := [(2, .int 3), (0, .ref (ad 0)), (1, .int z)]) hx hb d_K_sumOddPowers_34 rfl hl (by decide) rfl (fun ls hl => ?_)
  refine lp_K_sumOdd (ad := ad) (cL := cL) (u := rk_mul 5 2 0 (rk_cpy 2 0 (rk_cpy 1 0 u))) (z := z) hF hA hK (Nat.le_of_ble_eq_true rfl) (Nat.le_of_ble_eq_true rfl) (Nat.le_of_ble_eq_true rfl) (Nat.le_of_ble_eq_true rfl) (fun H locs ls hP hD hS hl => ?_) 199 0 (by omega) rfl _ _ _ hP hD hS (lv_sub hl [1, 2, 0] rfl)
  have hP : va_P (dC, dI) cl9 (rk_w ad cL (rk_odd z u)) H := hP
  have hD : va_D A (rk_w ad cL (rk_odd z u)) := hD
  exact ct_vret hF d_K_sumOddPowers_115 (rk_odd z u) rfl hP hD hK hS
