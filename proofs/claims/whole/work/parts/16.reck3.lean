def rk_fm (i : Nat) : Int32 := if i % 2 = 0 then 1 else 0
def rk_fB (d0 i : Nat) (u : rk_U) : rk_U := rk_as 0 1 (rk_fm i) (rk_dv 1 ((nI (d0 + 2 * i)).toInt64 * (nI (d0 + 2 * i) + 1).toInt64) (rk_mul 5 1 2 u))
def rk_fE (d0 : Nat) (u : rk_U) : rk_U := rk_it (rk_fB d0) (rk_stop (fun i => wr_z (rk_it (rk_fB d0) i u 2)) (201 - d0) 0) u
def rk_fac (d0 : Nat) (u : rk_U) : rk_U := rk_fE d0 (rk_cpy 1 0 u)
theorem rk_fm_s {i : Nat} (h : rk_fm i = 0) : rk_fm (i + 1) = 1 := by
  unfold rk_fm at *
  by_cases q : i % 2 = 0
  · rw [if_pos q] at h; exact absurd h (by decide)
  · rw [if_pos (by omega)]
theorem rk_fm_t {i : Nat} (h : ¬ rk_fm i = 0) : rk_fm (i + 1) = 0 := by
  unfold rk_fm at *
  by_cases q : i % 2 = 0
  · rw [if_neg (by omega)]
  · rw [if_neg q] at h; exact absurd rfl h
set_option maxHeartbeats 1000000 in
set_option maxRecDepth 100000 in
/-- a series over factorials -/
theorem lp_K_sumFact {p : Program} {l : Launch} {e : Env} {R : Room} {s : State} {m : MethodId} {args : Array Value} {below : List Frame} {meth : Method} {c : Code} {Q : State → Prop} {A : Nat → Prop} {cells slots : Nat} {dC : Nat → ClassId} {dI : Nat → Nat → Nat} {ad : Nat → Nat} {cL : ClassId} {u : rk_U} {d0 : Nat} (hF : ct_F p s m meth c b_K_sumFactorials none 4 w_K_sumFactorials y_K_sumFactorials args) (hA : ∀ q, s.heap.size ≤ q → A q) (hK : va_K (dC, dI) cl9 [(cL, .long)] s) (hRf : 3 ≤ R.frames) (hRl : 77 ≤ R.locals) (hRc : cells ≤ R.cells) (hRs : slots ≤ R.slots) (hd0 : d0 = 1 ∨ d0 = 2)
    (K : ∀ (H : Heap) (locs : List Loc) (ls : Array Slot), va_P (dC, dI) cl9 (rk_w ad cL (rk_it (rk_fB d0) (rk_stop (fun i => wr_z (rk_it (rk_fB d0) i u 2)) (201 - d0) 0) u)) H → va_D A (rk_w ad cL (rk_it (rk_fB d0) (rk_stop (fun i => wr_z (rk_it (rk_fB d0) i u 2)) (201 - d0) 0) u)) → va_S A s.heap H locs → lv_has ls 4 [(0, .ref (ad 0))] → W p l e R s m args below meth c H locs cells slots Q (F0 m 85 ls [])) :
    ∀ (n9 i : Nat), i + n9 = (201 - d0) → (rk_stop (fun i => wr_z (rk_it (rk_fB d0) i u 2)) (201 - d0) 0 = rk_stop (fun i => wr_z (rk_it (rk_fB d0) i u 2)) n9 i) → ∀ (H : Heap) (locs : List Loc) (ls : Array Slot), va_P (dC, dI) cl9 (rk_w ad cL (rk_it (rk_fB d0) i u)) H → va_D A (rk_w ad cL (rk_it (rk_fB d0) i u)) → va_S A s.heap H locs → lv_has ls 4 [(0, .ref (ad 0)), (2, .int (rk_fm i)), (3, .int (nI (d0 + 2 * i)))] → W p l e R s m args below meth c H locs cells slots Q (F0 m 15 ls []) := by
  obtain ⟨hx, hb, hr, hml, hts, hown, hlocks, hnm⟩ := id hF
  have hown : s.vm.findClass R_K = some m.cls := hown
  have ha : ∀ w ∈ al_K, w.before args s = true := fun w h => hts w (List.mem_cons_of_mem _ h)
  intro n9
  induction n9 with
  | zero =>
    intro i hi hinv H locs ls hP hD hS hl
    obtain rfl : (201 - d0) = i := by omega
    refine lv_iload_n hx hb d_K_sumFactorials_15 rfl (lv_at hl 2 rfl) ?_
    refine lv_sipush (v := 400) hx hb d_K_sumFactorials_16 (by decide) ?_
    refine lv_icmp_ge (tgt := 85) hx hb d_K_sumFactorials_19 (by decide) (fun hc => ?_) (fun hc => ?_)
    · have e9 : rk_it (rk_fB d0) (rk_stop (fun i => wr_z (rk_it (rk_fB d0) i u 2)) (201 - d0) 0) u = rk_it (rk_fB d0) (201 - d0) u := congrArg (fun k => rk_it (rk_fB d0) k u) hinv
      exact K _ _ _ (by rw [e9]; exact hP) (by rw [e9]; exact hD) hS (lv_sub hl [0] rfl)
    · exact absurd (show nI 400 ≤ nI (d0 + 2 * (201 - d0)) from nI_le (by omega) (by omega)) hc
  | succ n9 ih =>
    intro i hi hinv H locs ls hP hD hS hl
    have hlt : i < (201 - d0) := by omega
    refine lv_iload_n hx hb d_K_sumFactorials_15 rfl (lv_at hl 2 rfl) ?_
    refine lv_sipush (v := 400) hx hb d_K_sumFactorials_16 (by decide) ?_
    refine lv_icmp_ge (tgt := 85) hx hb d_K_sumFactorials_19 (by decide) (fun hc => ?_) (fun hc => ?_)
    · exact absurd (show nI 400 ≤ nI (d0 + 2 * i) from hc) (nI_ge (by omega) (by omega))
    · refine lv_aload_n hx hb d_K_sumFactorials_22 rfl (lv_at hl 0 rfl) ?_
      refine va_get (D := (dC, dI)) (ci := 1) (v := .ref (ad 4)) (C := R_K) (T := F_K) (N := 5) hx hb ha ui_K hown hK hP 0 rfl rfl 1 (by decide) (ha _ wm_K_7) (fun _ h9 => h9) rfl d_K_sumFactorials_23 ?_
      refine cs_calli (va_runV (As := []) (rest := []) ⟨hx, hb, hml, hown, ha⟩ (c_W_isZero l dC dI (ad 4) (ad 5) (ad 6) cL ((rk_it (rk_fB d0) i u) 2) _) (cwV 0 ha g_K_W_isZero rfl rfl rfl (by decide +kernel) ⟨Nat.le_trans (Nat.le_of_ble_eq_true rfl) hRf, Nat.le_trans (Nat.le_of_ble_eq_true rfl) hRl⟩) (ct_preV ct_G0ok trivial hK hP hD hS hA [4, 5] rfl (by decide) [0] rfl 4 0 rfl rfl rfl) rfl rfl hl.1 rfl (lv_room (Nat.le_of_ble_eq_true rfl)) d_K_sumFactorials_26 ⟨hRc, hRs⟩) hP hD hS hA [4, 5] rfl (by decide) (fun _ => rfl) (fun r9 u7 H locs hw hP hD hS => ?_)
      obtain rfl : r9 = wr_z ((rk_it (rk_fB d0) i u) 2) := hw.trans (ir_eq _).symm
      obtain ⟨hP, hD⟩ : va_P (dC, dI) cl9 (rk_w ad cL (rk_it (rk_fB d0) i u)) H ∧ va_D A (rk_w ad cL (rk_it (rk_fB d0) i u)) := ct_eqP (rkw0_1 ad cL (rk_it (rk_fB d0) i u)) hP hD
      refine lv_if_ne (tgt := 85) hx hb d_K_sumFactorials_29 (by decide) (fun hz => ?_) (fun hz => ?_)
      · have e9 : rk_it (rk_fB d0) (rk_stop (fun i => wr_z (rk_it (rk_fB d0) i u 2)) (201 - d0) 0) u = rk_it (rk_fB d0) i u := congrArg (fun k => rk_it (rk_fB d0) k u) (hinv.trans (if_neg hz))
        exact K _ _ _ (by rw [e9]; exact hP) (by rw [e9]; exact hD) hS (lv_sub hl [0] rfl)
      · refine lv_aload_n hx hb d_K_sumFactorials_32 rfl (lv_at hl 0 rfl) ?_
        refine va_get (D := (dC, dI)) (ci := 1) (v := .ref (ad 4)) (C := R_K) (T := F_K) (N := 5) hx hb ha ui_K hown hK hP 0 rfl rfl 1 (by decide) (ha _ wm_K_7) (fun _ h9 => h9) rfl d_K_sumFactorials_33 ?_
        refine lv_aload_n hx hb d_K_sumFactorials_36 rfl (lv_at hl 0 rfl) ?_
        refine va_get (D := (dC, dI)) (ci := 1) (v := .ref (ad 7)) (C := R_K) (T := F_K) (N := 5) hx hb ha ui_K hown hK hP 0 rfl rfl 2 (by decide) (ha _ wm_K_8) (fun _ h9 => h9) rfl d_K_sumFactorials_37 ?_
        refine cs_callv (va_runV (As := [.ref (ad 7)]) (rest := []) ⟨hx, hb, hml, hown, ha⟩ (c_W_multiply l dC dI (ad 4) (ad 5) (ad 6) (ad 7) (ad 8) (ad 9) cL ((rk_it (rk_fB d0) i u) 2) ((rk_it (rk_fB d0) i u) 4) ((rk_it (rk_fB d0) i u) 3) _) (cwV 1 ha g_K_W_multiply rfl rfl rfl (by decide +kernel) ⟨Nat.le_trans (Nat.le_of_ble_eq_true rfl) hRf, Nat.le_trans (Nat.le_of_ble_eq_true rfl) hRl⟩) (ct_preV ct_G0ok trivial hK hP hD hS hA [4, 5, 6, 7, 8] rfl (by decide) [0] rfl 4 0 rfl rfl rfl) rfl rfl hl.1 rfl (lv_room (Nat.le_of_ble_eq_true rfl)) d_K_sumFactorials_40 ⟨hRc, hRs⟩) hP hD hS hA [4, 5, 6, 7, 8] rfl (by decide) (fun _ => rfl) (fun u7 H locs hw hP hD hS => ?_)
        obtain ⟨u8, u9⟩ := u7
        obtain rfl : u8 = _ := hw.1.trans (ir_eq _).symm
        obtain rfl : u9 = _ := hw.2.trans (ir_eq _).symm
        obtain ⟨hP, hD⟩ : va_P (dC, dI) cl9 (rk_w ad cL (rk_mul 5 1 2 (rk_it (rk_fB d0) i u))) H ∧ va_D A (rk_w ad cL (rk_mul 5 1 2 (rk_it (rk_fB d0) i u))) := ct_eqP (rkwm_1_2 ad cL (rk_it (rk_fB d0) i u) _ _) hP hD
        refine lv_aload_n hx hb d_K_sumFactorials_43 rfl (lv_at hl 0 rfl) ?_
        refine va_get (D := (dC, dI)) (ci := 1) (v := .ref (ad 4)) (C := R_K) (T := F_K) (N := 5) hx hb ha ui_K hown hK hP 0 rfl rfl 1 (by decide) (ha _ wm_K_7) (fun _ h9 => h9) rfl d_K_sumFactorials_44 ?_
        refine lv_iload_n hx hb d_K_sumFactorials_47 rfl (lv_at hl 2 rfl) ?_
        refine lv_i2l hx hb d_K_sumFactorials_48 rfl ?_
        refine lv_iload_n hx hb d_K_sumFactorials_49 rfl (lv_at hl 2 rfl) ?_
        refine lv_iconst (v := 1) hx hb d_K_sumFactorials_50 (by decide) ?_
        refine lv_iadd hx hb d_K_sumFactorials_51 ?_
        refine lv_i2l hx hb d_K_sumFactorials_52 rfl ?_
        refine lv_lmul hx hb d_K_sumFactorials_53 ?_
        refine cs_callv (va_runV (As := [.long ((((nI (d0 + 2 * i)) : Int32).toInt64) * ((((nI (d0 + 2 * i)) + 1) : Int32).toInt64))]) (rest := []) ⟨hx, hb, hml, hown, ha⟩ (c_W_divide l dC dI (ad 4) (ad 5) (ad 6) cL ((rk_mul 5 1 2 (rk_it (rk_fB d0) i u)) 2) ((((nI (d0 + 2 * i)) : Int32).toInt64) * ((((nI (d0 + 2 * i)) + 1) : Int32).toInt64)) _) (cwV 1 ha g_K_W_divide rfl rfl rfl (by decide +kernel) ⟨Nat.le_trans (Nat.le_of_ble_eq_true rfl) hRf, Nat.le_trans (Nat.le_of_ble_eq_true rfl) hRl⟩) (ct_preV ct_G0ok trivial hK hP hD hS hA [4, 5] rfl (by decide) [0] rfl 4 0 rfl rfl rfl) rfl rfl hl.1 rfl (lv_room (Nat.le_of_ble_eq_true rfl)) d_K_sumFactorials_54 ⟨hRc, hRs⟩) hP hD hS hA [4, 5] rfl (by decide) (fun _ => rfl) (fun u7 H locs hw hP hD hS => ?_)
        obtain rfl : u7 = _ := hw.trans (ir_eq _).symm
        obtain ⟨hP, hD⟩ : va_P (dC, dI) cl9 (rk_w ad cL (rk_dv 1 ((((nI (d0 + 2 * i)) : Int32).toInt64) * ((((nI (d0 + 2 * i)) + 1) : Int32).toInt64)) (rk_mul 5 1 2 (rk_it (rk_fB d0) i u)))) H ∧ va_D A (rk_w ad cL (rk_dv 1 ((((nI (d0 + 2 * i)) : Int32).toInt64) * ((((nI (d0 + 2 * i)) + 1) : Int32).toInt64)) (rk_mul 5 1 2 (rk_it (rk_fB d0) i u)))) := ct_eqP (rkw1_1 ad cL (rk_mul 5 1 2 (rk_it (rk_fB d0) i u)) _) hP hD
        refine lv_aload_n hx hb d_K_sumFactorials_57 rfl (lv_at hl 0 rfl) ?_
        refine va_get (D := (dC, dI)) (ci := 1) (v := .ref (ad 1)) (C := R_K) (T := F_K) (N := 5) hx hb ha ui_K hown hK hP 0 rfl rfl 0 (by decide) (ha _ wm_K_6) (fun _ h9 => h9) rfl d_K_sumFactorials_58 ?_
        refine lv_aload_n hx hb d_K_sumFactorials_61 rfl (lv_at hl 0 rfl) ?_
        refine va_get (D := (dC, dI)) (ci := 1) (v := .ref (ad 4)) (C := R_K) (T := F_K) (N := 5) hx hb ha ui_K hown hK hP 0 rfl rfl 1 (by decide) (ha _ wm_K_7) (fun _ h9 => h9) rfl d_K_sumFactorials_62 ?_
        refine lv_iload_n hx hb d_K_sumFactorials_65 rfl (lv_at hl 1 rfl) ?_
        refine cs_callv (va_runV (As := [.ref (ad 4), .int (rk_fm i)]) (rest := []) ⟨hx, hb, hml, hown, ha⟩ (c_W_addOrSubtract l dC dI (ad 1) (ad 2) (ad 3) (ad 4) (ad 5) (ad 6) cL ((rk_dv 1 ((((nI (d0 + 2 * i)) : Int32).toInt64) * ((((nI (d0 + 2 * i)) + 1) : Int32).toInt64)) (rk_mul 5 1 2 (rk_it (rk_fB d0) i u))) 0) ((rk_dv 1 ((((nI (d0 + 2 * i)) : Int32).toInt64) * ((((nI (d0 + 2 * i)) + 1) : Int32).toInt64)) (rk_mul 5 1 2 (rk_it (rk_fB d0) i u))) 2) (rk_fm i) _) (cwV 2 ha g_K_W_addOrSubtract rfl rfl rfl (by decide +kernel) ⟨Nat.le_trans (Nat.le_of_ble_eq_true rfl) hRf, Nat.le_trans (Nat.le_of_ble_eq_true rfl) hRl⟩) (ct_preV ct_G0ok trivial hK hP hD hS hA [1, 2, 4, 5] rfl (by decide) [0] rfl 1 0 rfl rfl rfl) rfl rfl hl.1 rfl (lv_room (Nat.le_of_ble_eq_true rfl)) d_K_sumFactorials_66 ⟨hRc, hRs⟩) hP hD hS hA [1, 2, 4, 5] rfl (by decide) (fun _ => rfl) (fun u7 H locs hw hP hD hS => ?_)
        obtain rfl : u7 = _ := hw.trans (ir_eq _).symm
        obtain ⟨hP, hD⟩ : va_P (dC, dI) cl9 (rk_w ad cL (rk_as 0 1 (rk_fm i) (rk_dv 1 ((((nI (d0 + 2 * i)) : Int32).toInt64) * ((((nI (d0 + 2 * i)) + 1) : Int32).toInt64)) (rk_mul 5 1 2 (rk_it (rk_fB d0) i u))))) H ∧ va_D A (rk_w ad cL (rk_as 0 1 (rk_fm i) (rk_dv 1 ((((nI (d0 + 2 * i)) : Int32).toInt64) * ((((nI (d0 + 2 * i)) + 1) : Int32).toInt64)) (rk_mul 5 1 2 (rk_it (rk_fB d0) i u))))) := ct_eqP (rkw2_0_1 ad cL (rk_dv 1 ((((nI (d0 + 2 * i)) : Int32).toInt64) * ((((nI (d0 + 2 * i)) + 1) : Int32).toInt64)) (rk_mul 5 1 2 (rk_it (rk_fB d0) i u))) _) hP hD
        refine lv_iload_n hx hb d_K_sumFactorials_69 rfl (lv_at hl 1 rfl) ?_
        refine lv_if_ne (tgt := 77) hx hb d_K_sumFactorials_70 (by decide) (fun h2 => ?_) (fun h2 => ?_)
        · refine lv_iconst (v := 0) hx hb d_K_sumFactorials_77 (by decide) ?_
          refine lv_istore_n (lv' := [(2, .int 0), (0, .ref (ad 0)), (3, .int (nI (d0 + 2 * i)))]) hx hb d_K_sumFactorials_78 rfl hl (by decide) rfl (fun ls hl => ?_)
          refine lv_iinc (v := (nI (d0 + 2 * (i + 1)))) (lv' := [(3, .int (nI (d0 + 2 * (i + 1)))), (2, .int 0), (0, .ref (ad 0))]) hx hb d_K_sumFactorials_79 hl (k := 2) rfl (by exact nI_add (d0 + 2 * i) 2) (by decide) rfl (fun ls hl => ?_)
          refine lv_goto (tgt := 15) hx hb d_K_sumFactorials_82 (by decide) ?_
          have e8 : (0 : Int32) = rk_fm (i + 1) := (rk_fm_t h2).symm
          have hl : lv_has ls 4 [(3, .int (nI (d0 + 2 * (i + 1)))), (2, .int (rk_fm (i + 1))), (0, .ref (ad 0))] := by rw [← e8]; exact hl
          exact ih (i + 1) (by omega) (hinv.trans (if_pos hz)) _ _ _ hP hD hS (lv_sub hl [2, 1, 0] rfl)
        · refine lv_iconst (v := 1) hx hb d_K_sumFactorials_73 (by decide) ?_
          refine lv_goto (tgt := 78) hx hb d_K_sumFactorials_74 (by decide) ?_
          refine lv_istore_n (lv' := [(2, .int 1), (0, .ref (ad 0)), (3, .int (nI (d0 + 2 * i)))]) hx hb d_K_sumFactorials_78 rfl hl (by decide) rfl (fun ls hl => ?_)
          refine lv_iinc (v := (nI (d0 + 2 * (i + 1)))) (lv' := [(3, .int (nI (d0 + 2 * (i + 1)))), (2, .int 1), (0, .ref (ad 0))]) hx hb d_K_sumFactorials_79 hl (k := 2) rfl (by exact nI_add (d0 + 2 * i) 2) (by decide) rfl (fun ls hl => ?_)
          refine lv_goto (tgt := 15) hx hb d_K_sumFactorials_82 (by decide) ?_
          have e8 : (1 : Int32) = rk_fm (i + 1) := (rk_fm_s h2).symm
          have hl : lv_has ls 4 [(3, .int (nI (d0 + 2 * (i + 1)))), (2, .int (rk_fm (i + 1))), (0, .ref (ad 0))] := by rw [← e8]; exact hl
          exact ih (i + 1) (by omega) (hinv.trans (if_pos hz)) _ _ _ hP hD hS (lv_sub hl [2, 1, 0] rfl)
set_option maxHeartbeats 1000000 in
set_option maxRecDepth 100000 in
/-- the sum over factorials -/
theorem c_K_sumFactorials (l : Launch) (dC : Nat → ClassId) (dI : Nat → Nat → Nat) (ad : Nat → Nat) (cL : ClassId) (u : rk_U) (d0 : Nat) (hd0 : d0 = 1 ∨ d0 = 2) (sz : Nat) : ct_V l y_K_sumFactorials w_K_sumFactorials { frames := 3, cells := 0, slots := 0, locals := 77 } (dC, dI) cl9 [(cL, .long)] ct_G0 [.ref (ad 0), .int (nI d0)] (rk_w ad cL u) sz (S := rk_U) (fun u' : rk_U => u' = rk_fac d0 u) (fun _ : rk_U => [(cL, .long)]) (fun u' : rk_U => rk_w ad cL u') 0 0 := by
  refine ct_of (Qf := fun A => va_Qv (fun u' : rk_U => u' = rk_fac d0 u) (ct_B (S := rk_U) (dC, dI) cl9 (fun _ : rk_U => [(cL, .long)]) A (fun u' : rk_U => rk_w ad cL u')) A) (cc := b_K_sumFactorials) (maxL := 4) (ret := none) (by decide) rfl (Nat.le_of_ble_eq_true rfl) ?_
  intro p e s m below meth c A ls hF hA hP hK hD hG hS hl
  obtain ⟨hx, hb, hr, hml, hts, hown, hlocks, hnm⟩ := id hF
  have hown : s.vm.findClass R_K = some m.cls := hown
  have ha : ∀ w ∈ al_K, w.before [.ref (ad 0), .int (nI d0)].toArray s = true := fun w h => hts w (List.mem_cons_of_mem _ h)
  have hl : lv_has ls 4 [(0, .ref (ad 0)), (1, .int (nI d0))] := hl
  refine lv_aload_n hx hb d_K_sumFactorials_0 rfl (lv_at hl 0 rfl) ?_
  refine va_get (D := (dC, dI)) (ci := 1) (v := .ref (ad 4)) (C := R_K) (T := F_K) (N := 5) hx hb ha ui_K hown hK hP 0 rfl rfl 1 (by decide) (ha _ wm_K_7) (fun _ h9 => h9) rfl d_K_sumFactorials_1 ?_
  refine lv_aload_n hx hb d_K_sumFactorials_4 rfl (lv_at hl 0 rfl) ?_
  refine va_get (D := (dC, dI)) (ci := 1) (v := .ref (ad 1)) (C := R_K) (T := F_K) (N := 5) hx hb ha ui_K hown hK hP 0 rfl rfl 0 (by decide) (ha _ wm_K_6) (fun _ h9 => h9) rfl d_K_sumFactorials_5 ?_
  refine cs_callv (va_runV (As := [.ref (ad 1)]) (rest := []) ⟨hx, hb, hml, hown, ha⟩ (c_W_loadWide l dC dI (ad 4) (ad 5) (ad 6) (ad 1) (ad 2) (ad 3) cL (u 2) (u 0) _) (cwV 1 ha g_K_W_loadWide rfl rfl rfl (by decide +kernel) ⟨Nat.le_of_ble_eq_true rfl, Nat.le_of_ble_eq_true rfl⟩) (ct_preV ct_G0ok trivial hK hP hD hS hA [4, 5, 1, 2] rfl (by decide) [0] rfl 4 0 rfl rfl rfl) rfl rfl hl.1 rfl (lv_room (Nat.le_of_ble_eq_true rfl)) d_K_sumFactorials_8 ⟨Nat.le_of_ble_eq_true rfl, Nat.le_of_ble_eq_true rfl⟩) hP hD hS hA [4, 5, 1, 2] rfl (by decide) (fun _ => rfl) (fun u7 H locs hw hP hD hS => ?_)
  obtain rfl : u7 = _ := hw.trans (ir_eq _).symm
  obtain ⟨hP, hD⟩ : va_P (dC, dI) cl9 (rk_w ad cL (rk_cpy 1 0 u)) H ∧ va_D A (rk_w ad cL (rk_cpy 1 0 u)) := ct_eqP (rkw2_1_0 ad cL u _) hP hD
  refine lv_iconst (v := 1) hx hb d_K_sumFactorials_11 (by decide) ?_
  refine lv_istore_n (lv' := [(2, .int 1), (0, .ref (ad 0)), (1, .int (nI d0))]) hx hb d_K_sumFactorials_12 rfl hl (by decide) rfl (fun ls hl => ?_)
  refine lv_iload_n hx hb d_K_sumFactorials_13 rfl (lv_at hl 2 rfl) ?_
  refine lv_istore_n (lv' := [(3, .int (nI d0)), (2, .int 1), (0, .ref (ad 0)), (1, .int (nI d0))]) hx hb d_K_sumFactorials_14 rfl hl (by decide) rfl (fun ls hl => ?_)
  refine lp_K_sumFact (ad := ad) (cL := cL) (u := rk_cpy 1 0 u) (d0 := d0) hF hA hK (Nat.le_of_ble_eq_true rfl) (Nat.le_of_ble_eq_true rfl) (Nat.le_of_ble_eq_true rfl) (Nat.le_of_ble_eq_true rfl) hd0 (fun H locs ls hP hD hS hl => ?_) (201 - d0) 0 (by omega) rfl _ _ _ hP hD hS (lv_sub hl [2, 1, 0] rfl)
  have hP : va_P (dC, dI) cl9 (rk_w ad cL (rk_fac d0 u)) H := hP
  have hD : va_D A (rk_w ad cL (rk_fac d0 u)) := hD
  exact ct_vret hF d_K_sumFactorials_85 (rk_fac d0 u) rfl hP hD hK hS
