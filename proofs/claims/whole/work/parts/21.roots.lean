def rk_pw0 (b : Int64) (u : rk_U) : rk_U := rk_loadI 0 b (rk_loadI 2 b u)
def rk_pw (b : Int64) (kn : Nat) (u : rk_U) : rk_U := rk_it (fun _ => rk_mul 0 0 2) (kn - 1) (rk_pw0 b u)
def rk_pwz (b : Int64) (kn : Nat) (u : rk_U) : Int32 := if wr_ab (rk_pw b kn u 0) (rk_pw b kn u 8) = 0 then 1 else 0
def rf_t (f : Int64) (i : Nat) : Int64 := f ||| pu_sl 1 (nI (39 - i))
def rf_it (kn : Nat) (u : rk_U) : Nat → Int64 × rk_U
  | 0 => (0, u)
  | i + 1 => (if rk_pwz (rf_t (rf_it kn u i).1 i) kn (rf_it kn u i).2 = 0 then (rf_it kn u i).1 else rf_t (rf_it kn u i).1 i, rk_pw (rf_t (rf_it kn u i).1 i) kn (rf_it kn u i).2)
def rf_0 (v : Int64) (kn : Nat) (u : rk_U) : rk_U := rk_scl 4 1000 (rk_it (fun _ => rk_scl 4 1000000000) (kn - 1) (rk_loadI 4 v u))
def rk_root (v : Int64) (kn : Nat) (u : rk_U) : Int64 × rk_U := ir_ 0 (rf_it kn (rf_0 v kn u) 40)
set_option maxHeartbeats 1000000 in
set_option maxRecDepth 100000 in
/-- so many times -/
theorem lp_K_pw {p : Program} {l : Launch} {e : Env} {R : Room} {s : State} {m : MethodId} {args : Array Value} {below : List Frame} {meth : Method} {c : Code} {Q : State → Prop} {A : Nat → Prop} {cells slots : Nat} {dC : Nat → ClassId} {dI : Nat → Nat → Nat} {ad : Nat → Nat} {cL : ClassId} {u : rk_U} {kn : Nat} (hF : ct_F p s m meth c b_K_isPowerWithinKept ((some .boolean)) 5 w_K_isPowerWithinKept y_K_isPowerWithinKept args) (hA : ∀ q, s.heap.size ≤ q → A q) (hK : va_K (dC, dI) cl9 [(cL, .long)] s) (hRf : 3 ≤ R.frames) (hRl : 77 ≤ R.locals) (hRc : cells ≤ R.cells) (hRs : slots ≤ R.slots) (hkn : 1 ≤ kn ∧ kn ≤ 5)
    (K : ∀ (H : Heap) (locs : List Loc) (ls : Array Slot), va_P (dC, dI) cl9 (rk_w ad cL (rk_it (fun _ => rk_mul 0 0 2) (kn - 1) u)) H → va_D A (rk_w ad cL (rk_it (fun _ => rk_mul 0 0 2) (kn - 1) u)) → va_S A s.heap H locs → lv_has ls 5 [(0, .ref (ad 0)), (3, .int (nI kn))] → W p l e R s m args below meth c H locs cells slots Q (F0 m 42 ls [])) :
    ∀ (n9 i : Nat), i + n9 = (kn - 1) → ∀ (H : Heap) (locs : List Loc) (ls : Array Slot), va_P (dC, dI) cl9 (rk_w ad cL (rk_it (fun _ => rk_mul 0 0 2) i u)) H → va_D A (rk_w ad cL (rk_it (fun _ => rk_mul 0 0 2) i u)) → va_S A s.heap H locs → lv_has ls 5 [(0, .ref (ad 0)), (3, .int (nI kn)), (4, .int (nI (i + 1)))] → W p l e R s m args below meth c H locs cells slots Q (F0 m 19 ls []) := by
  obtain ⟨hx, hb, hr, hml, hts, hown, hlocks, hnm⟩ := id hF
  have hown : s.vm.findClass R_K = some m.cls := hown
  have ha : ∀ w ∈ al_K, w.before args s = true := fun w h => hts w (List.mem_cons_of_mem _ h)
  intro n9
  induction n9 with
  | zero =>
    intro i hi H locs ls hP hD hS hl
    obtain rfl : (kn - 1) = i := by omega
    refine lv_iload hx hb d_K_isPowerWithinKept_19 (lv_at hl 2 rfl) ?_
    refine lv_iload_n hx hb d_K_isPowerWithinKept_21 rfl (lv_at hl 1 rfl) ?_
    refine lv_icmp_ge (tgt := 42) hx hb d_K_isPowerWithinKept_22 (by decide) (fun hc => ?_) (fun hc => ?_)
    · exact K _ _ _ hP hD hS (lv_sub hl [0, 1] rfl)
    · exact absurd (show nI kn ≤ nI (kn - 1 + 1) from nI_le (by omega) (by omega)) hc
  | succ n9 ih =>
    intro i hi H locs ls hP hD hS hl
    have hlt : i < (kn - 1) := by omega
    refine lv_iload hx hb d_K_isPowerWithinKept_19 (lv_at hl 2 rfl) ?_
    refine lv_iload_n hx hb d_K_isPowerWithinKept_21 rfl (lv_at hl 1 rfl) ?_
    refine lv_icmp_ge (tgt := 42) hx hb d_K_isPowerWithinKept_22 (by decide) (fun hc => ?_) (fun hc => ?_)
    · exact absurd (show nI kn ≤ nI (i + 1) from hc) (nI_ge (by omega) (by omega))
    · refine lv_aload_n hx hb d_K_isPowerWithinKept_25 rfl (lv_at hl 0 rfl) ?_
      refine va_get (D := (dC, dI)) (ci := 1) (v := .ref (ad 1)) (C := R_K) (T := F_K) (N := 5) hx hb ha ui_K hown hK hP 0 rfl rfl 0 (by decide) (ha _ wm_K_6) (fun _ h9 => h9) rfl d_K_isPowerWithinKept_26 ?_
      refine lv_aload_n hx hb d_K_isPowerWithinKept_29 rfl (lv_at hl 0 rfl) ?_
      refine va_get (D := (dC, dI)) (ci := 1) (v := .ref (ad 7)) (C := R_K) (T := F_K) (N := 5) hx hb ha ui_K hown hK hP 0 rfl rfl 2 (by decide) (ha _ wm_K_8) (fun _ h9 => h9) rfl d_K_isPowerWithinKept_30 ?_
      refine cs_callv (va_runV (As := [.ref (ad 7)]) (rest := []) ⟨hx, hb, hml, hown, ha⟩ (c_W_multiplyInteger l dC dI (ad 1) (ad 2) (ad 3) (ad 7) (ad 8) (ad 9) cL ((rk_it (fun _ => rk_mul 0 0 2) i u) 0) ((rk_it (fun _ => rk_mul 0 0 2) i u) 4) ((rk_it (fun _ => rk_mul 0 0 2) i u) 1) _) (cwV 1 ha g_K_W_multiplyInteger rfl rfl rfl (by decide +kernel) ⟨Nat.le_trans (Nat.le_of_ble_eq_true rfl) hRf, Nat.le_trans (Nat.le_of_ble_eq_true rfl) hRl⟩) (ct_preV ct_G0ok trivial hK hP hD hS hA [1, 2, 3, 7, 8] rfl (by decide) [0] rfl 1 0 rfl rfl rfl) rfl rfl hl.1 rfl (lv_room (Nat.le_of_ble_eq_true rfl)) d_K_isPowerWithinKept_33 ⟨hRc, hRs⟩) hP hD hS hA [1, 2, 3, 7, 8] rfl (by decide) (fun _ => rfl) (fun u7 H locs hw hP hD hS => ?_)
      obtain ⟨u8, u9⟩ := u7
      obtain rfl : u8 = _ := hw.1.trans (ir_eq _).symm
      obtain rfl : u9 = _ := hw.2.trans (ir_eq _).symm
      obtain ⟨hP, hD⟩ : va_P (dC, dI) cl9 (rk_w ad cL (rk_mul 0 0 2 (rk_it (fun _ => rk_mul 0 0 2) i u))) H ∧ va_D A (rk_w ad cL (rk_mul 0 0 2 (rk_it (fun _ => rk_mul 0 0 2) i u))) := ct_eqP (rkwm_0_2 ad cL (rk_it (fun _ => rk_mul 0 0 2) i u) _ _) hP hD
      refine lv_iinc (v := (nI (i + 1 + 1))) (lv' := [(4, .int (nI (i + 1 + 1))), (0, .ref (ad 0)), (3, .int (nI kn))]) hx hb d_K_isPowerWithinKept_36 hl (k := 2) rfl (by exact nI_1 (i + 1)) (by decide) rfl (fun ls hl => ?_)
      refine lv_goto (tgt := 19) hx hb d_K_isPowerWithinKept_39 (by decide) ?_
      exact ih (i + 1) (by omega) _ _ _ hP hD hS (lv_sub hl [1, 2, 0] rfl)
set_option maxHeartbeats 1000000 in
set_option maxRecDepth 100000 in
/-- whether a power is within what is kept -/
theorem c_K_isPowerWithinKept (l : Launch) (dC : Nat → ClassId) (dI : Nat → Nat → Nat) (ad : Nat → Nat) (cL : ClassId) (u : rk_U) (b : Int64) (kn : Nat) (hkn : 1 ≤ kn ∧ kn ≤ 5) (sz : Nat) : ct_I l y_K_isPowerWithinKept w_K_isPowerWithinKept { frames := 3, cells := 0, slots := 0, locals := 77 } (dC, dI) cl9 [(cL, .long)] ct_G0 [.ref (ad 0), .long b, .int (nI kn)] (rk_w ad cL u) sz (S := rk_U) (fun r (u' : rk_U) => u' = rk_pw b kn u ∧ r = rk_pwz b kn u) (fun _ : rk_U => [(cL, .long)]) (fun u' : rk_U => rk_w ad cL u') 0 0 := by
  refine ct_of (Qf := fun A => va_Qi (fun r (u' : rk_U) => u' = rk_pw b kn u ∧ r = rk_pwz b kn u) (ct_B (S := rk_U) (dC, dI) cl9 (fun _ : rk_U => [(cL, .long)]) A (fun u' : rk_U => rk_w ad cL u')) A) (cc := b_K_isPowerWithinKept) (maxL := 5) (ret := ((some .boolean))) (by decide) rfl (Nat.le_of_ble_eq_true rfl) ?_
  intro p e s m below meth c A ls hF hA hP hK hD hG hS hl
  obtain ⟨hx, hb, hr, hml, hts, hown, hlocks, hnm⟩ := id hF
  have hown : s.vm.findClass R_K = some m.cls := hown
  have ha : ∀ w ∈ al_K, w.before [.ref (ad 0), .long b, .int (nI kn)].toArray s = true := fun w h => hts w (List.mem_cons_of_mem _ h)
  have hl : lv_has ls 5 [(0, .ref (ad 0)), (1, .long b), (3, .int (nI kn))] := hl
  refine lv_aload_n hx hb d_K_isPowerWithinKept_0 rfl (lv_at hl 0 rfl) ?_
  refine va_get (D := (dC, dI)) (ci := 1) (v := .ref (ad 7)) (C := R_K) (T := F_K) (N := 5) hx hb ha ui_K hown hK hP 0 rfl rfl 2 (by decide) (ha _ wm_K_8) (fun _ h9 => h9) rfl d_K_isPowerWithinKept_1 ?_
  refine lv_lload_n hx hb d_K_isPowerWithinKept_4 rfl (lv_at hl 1 rfl) ?_
  refine cs_callv (va_runV (As := [.long b]) (rest := []) ⟨hx, hb, hml, hown, ha⟩ (c_W_loadInteger l dC dI (ad 7) (ad 8) (ad 9) cL (u 4) b _) (cwV 1 ha g_K_W_loadInteger rfl rfl rfl (by decide +kernel) ⟨Nat.le_of_ble_eq_true rfl, Nat.le_of_ble_eq_true rfl⟩) (ct_preV ct_G0ok trivial hK hP hD hS hA [7, 8] rfl (by decide) [0] rfl 7 0 rfl rfl rfl) rfl rfl hl.1 rfl (lv_room (Nat.le_of_ble_eq_true rfl)) d_K_isPowerWithinKept_5 ⟨Nat.le_of_ble_eq_true rfl, Nat.le_of_ble_eq_true rfl⟩) hP hD hS hA [7, 8] rfl (by decide) (fun _ => rfl) (fun u7 H locs hw hP hD hS => ?_)
  obtain rfl : u7 = _ := hw.trans (ir_eq _).symm
  obtain ⟨hP, hD⟩ : va_P (dC, dI) cl9 (rk_w ad cL (rk_loadI 2 b u)) H ∧ va_D A (rk_w ad cL (rk_loadI 2 b u)) := ct_eqP (rkw1_2 ad cL u _) hP hD
  refine lv_aload_n hx hb d_K_isPowerWithinKept_8 rfl (lv_at hl 0 rfl) ?_
  refine va_get (D := (dC, dI)) (ci := 1) (v := .ref (ad 1)) (C := R_K) (T := F_K) (N := 5) hx hb ha ui_K hown hK hP 0 rfl rfl 0 (by decide) (ha _ wm_K_6) (fun _ h9 => h9) rfl d_K_isPowerWithinKept_9 ?_
  refine lv_lload_n hx hb d_K_isPowerWithinKept_12 rfl (lv_at hl 1 rfl) ?_
  refine cs_callv (va_runV (As := [.long b]) (rest := []) ⟨hx, hb, hml, hown, ha⟩ (c_W_loadInteger l dC dI (ad 1) (ad 2) (ad 3) cL ((rk_loadI 2 b u) 0) b _) (cwV 1 ha g_K_W_loadInteger rfl rfl rfl (by decide +kernel) ⟨Nat.le_of_ble_eq_true rfl, Nat.le_of_ble_eq_true rfl⟩) (ct_preV ct_G0ok trivial hK hP hD hS hA [1, 2] rfl (by decide) [0] rfl 1 0 rfl rfl rfl) rfl rfl hl.1 rfl (lv_room (Nat.le_of_ble_eq_true rfl)) d_K_isPowerWithinKept_13 ⟨Nat.le_of_ble_eq_true rfl, Nat.le_of_ble_eq_true rfl⟩) hP hD hS hA [1, 2] rfl (by decide) (fun _ => rfl) (fun u7 H locs hw hP hD hS => ?_)
  obtain rfl : u7 = _ := hw.trans (ir_eq _).symm
  obtain ⟨hP, hD⟩ : va_P (dC, dI) cl9 (rk_w ad cL (rk_loadI 0 b (rk_loadI 2 b u))) H ∧ va_D A (rk_w ad cL (rk_loadI 0 b (rk_loadI 2 b u))) := ct_eqP (rkw1_0 ad cL (rk_loadI 2 b u) _) hP hD
  refine lv_iconst (v := 1) hx hb d_K_isPowerWithinKept_16 (by decide) ?_
  refine lv_istore (lv' := [(4, .int 1), (0, .ref (ad 0)), (1, .long b), (3, .int (nI kn))]) hx hb d_K_isPowerWithinKept_17 hl (by decide) rfl (fun ls hl => ?_)
  refine lp_K_pw (ad := ad) (cL := cL) (u := rk_loadI 0 b (rk_loadI 2 b u)) (kn := kn) hF hA hK (Nat.le_of_ble_eq_true rfl) (Nat.le_of_ble_eq_true rfl) (Nat.le_of_ble_eq_true rfl) (Nat.le_of_ble_eq_true rfl) hkn (fun H locs ls hP hD hS hl => ?_) (kn - 1) 0 (by omega) _ _ _ hP hD hS (lv_sub hl [1, 3, 0] rfl)
  have hP : va_P (dC, dI) cl9 (rk_w ad cL (rk_pw b kn u)) H := hP
  have hD : va_D A (rk_w ad cL (rk_pw b kn u)) := hD
  refine lv_aload_n hx hb d_K_isPowerWithinKept_42 rfl (lv_at hl 0 rfl) ?_
  refine va_get (D := (dC, dI)) (ci := 1) (v := .ref (ad 1)) (C := R_K) (T := F_K) (N := 5) hx hb ha ui_K hown hK hP 0 rfl rfl 0 (by decide) (ha _ wm_K_6) (fun _ h9 => h9) rfl d_K_isPowerWithinKept_43 ?_
  refine lv_aload_n hx hb d_K_isPowerWithinKept_46 rfl (lv_at hl 0 rfl) ?_
  refine va_get (D := (dC, dI)) (ci := 1) (v := .ref (ad 13)) (C := R_K) (T := F_K) (N := 5) hx hb ha ui_K hown hK hP 0 rfl rfl 4 (by decide) (ha _ wm_K_10) (fun _ h9 => h9) rfl d_K_isPowerWithinKept_47 ?_
  refine cs_calli (va_runV (As := [.ref (ad 13)]) (rest := []) ⟨hx, hb, hml, hown, ha⟩ (c_W_isAbove l dC dI (ad 1) (ad 2) (ad 3) (ad 13) (ad 14) (ad 15) cL ((rk_pw b kn u) 0) ((rk_pw b kn u) 8) _) (cwV 1 ha g_K_W_isAbove rfl rfl rfl (by decide +kernel) ⟨Nat.le_of_ble_eq_true rfl, Nat.le_of_ble_eq_true rfl⟩) (ct_preV ct_G0ok trivial hK hP hD hS hA [1, 2, 13, 14] rfl (by decide) [0] rfl 1 0 rfl rfl rfl) rfl rfl hl.1 rfl (lv_room (Nat.le_of_ble_eq_true rfl)) d_K_isPowerWithinKept_50 ⟨Nat.le_of_ble_eq_true rfl, Nat.le_of_ble_eq_true rfl⟩) hP hD hS hA [1, 2, 13, 14] rfl (by decide) (fun _ => rfl) (fun r9 u7 H locs hw hP hD hS => ?_)
  obtain rfl : r9 = wr_ab ((rk_pw b kn u) 0) ((rk_pw b kn u) 8) := hw.trans (ir_eq _).symm
  obtain ⟨hP, hD⟩ : va_P (dC, dI) cl9 (rk_w ad cL (rk_pw b kn u)) H ∧ va_D A (rk_w ad cL (rk_pw b kn u)) := ct_eqP (rkw02_0_4 ad cL (rk_pw b kn u)) hP hD
  refine lv_if_ne (tgt := 60) hx hb d_K_isPowerWithinKept_53 (by decide) (fun hc => ?_) (fun hc => ?_)
  · refine lv_iconst (v := 0) hx hb d_K_isPowerWithinKept_60 (by decide) ?_
    exact ct_zret hF d_K_isPowerWithinKept_61 (by decide) (rk_pw b kn u) ⟨rfl, (if_neg hc).symm⟩ hP hD hK hS
  · refine lv_iconst (v := 1) hx hb d_K_isPowerWithinKept_56 (by decide) ?_
    refine lv_goto (tgt := 61) hx hb d_K_isPowerWithinKept_57 (by decide) ?_
    exact ct_zret hF d_K_isPowerWithinKept_61 (by decide) (rk_pw b kn u) ⟨rfl, (if_pos hc).symm⟩ hP hD hK hS
set_option maxHeartbeats 1000000 in
set_option maxRecDepth 100000 in
/-- so many times -/
theorem lp_K_rt1 {p : Program} {l : Launch} {e : Env} {R : Room} {s : State} {m : MethodId} {args : Array Value} {below : List Frame} {meth : Method} {c : Code} {Q : State → Prop} {A : Nat → Prop} {cells slots : Nat} {dC : Nat → ClassId} {dI : Nat → Nat → Nat} {ad : Nat → Nat} {cL : ClassId} {u : rk_U} {kn : Nat} (hF : ct_F p s m meth c b_K_floorOfRoot ((some .long)) 9 w_K_floorOfRoot y_K_floorOfRoot args) (hA : ∀ q, s.heap.size ≤ q → A q) (hK : va_K (dC, dI) cl9 [(cL, .long)] s) (hRf : 3 ≤ R.frames) (hRl : 77 ≤ R.locals) (hRc : cells ≤ R.cells) (hRs : slots ≤ R.slots) (hkn : 1 ≤ kn ∧ kn ≤ 5)
    (K : ∀ (H : Heap) (locs : List Loc) (ls : Array Slot), va_P (dC, dI) cl9 (rk_w ad cL (rk_it (fun _ => rk_scl 4 1000000000) (kn - 1) u)) H → va_D A (rk_w ad cL (rk_it (fun _ => rk_scl 4 1000000000) (kn - 1) u)) → va_S A s.heap H locs → lv_has ls 9 [(0, .ref (ad 0)), (3, .int (nI kn))] → W p l e R s m args below meth c H locs cells slots Q (F0 m 33 ls [])) :
    ∀ (n9 i : Nat), i + n9 = (kn - 1) → ∀ (H : Heap) (locs : List Loc) (ls : Array Slot), va_P (dC, dI) cl9 (rk_w ad cL (rk_it (fun _ => rk_scl 4 1000000000) i u)) H → va_D A (rk_w ad cL (rk_it (fun _ => rk_scl 4 1000000000) i u)) → va_S A s.heap H locs → lv_has ls 9 [(0, .ref (ad 0)), (3, .int (nI kn)), (4, .int (nI (i + 1)))] → W p l e R s m args below meth c H locs cells slots Q (F0 m 11 ls []) := by
  obtain ⟨hx, hb, hr, hml, hts, hown, hlocks, hnm⟩ := id hF
  have hown : s.vm.findClass R_K = some m.cls := hown
  have ha : ∀ w ∈ al_K, w.before args s = true := fun w h => hts w (List.mem_cons_of_mem _ h)
  intro n9
  induction n9 with
  | zero =>
    intro i hi H locs ls hP hD hS hl
    obtain rfl : (kn - 1) = i := by omega
    refine lv_iload hx hb d_K_floorOfRoot_11 (lv_at hl 2 rfl) ?_
    refine lv_iload_n hx hb d_K_floorOfRoot_13 rfl (lv_at hl 1 rfl) ?_
    refine lv_icmp_ge (tgt := 33) hx hb d_K_floorOfRoot_14 (by decide) (fun hc => ?_) (fun hc => ?_)
    · exact K _ _ _ hP hD hS (lv_sub hl [0, 1] rfl)
    · exact absurd (show nI kn ≤ nI (kn - 1 + 1) from nI_le (by omega) (by omega)) hc
  | succ n9 ih =>
    intro i hi H locs ls hP hD hS hl
    have hlt : i < (kn - 1) := by omega
    refine lv_iload hx hb d_K_floorOfRoot_11 (lv_at hl 2 rfl) ?_
    refine lv_iload_n hx hb d_K_floorOfRoot_13 rfl (lv_at hl 1 rfl) ?_
    refine lv_icmp_ge (tgt := 33) hx hb d_K_floorOfRoot_14 (by decide) (fun hc => ?_) (fun hc => ?_)
    · exact absurd (show nI kn ≤ nI (i + 1) from hc) (nI_ge (by omega) (by omega))
    · refine lv_aload_n hx hb d_K_floorOfRoot_17 rfl (lv_at hl 0 rfl) ?_
      refine va_get (D := (dC, dI)) (ci := 1) (v := .ref (ad 13)) (C := R_K) (T := F_K) (N := 5) hx hb ha ui_K hown hK hP 0 rfl rfl 4 (by decide) (ha _ wm_K_10) (fun _ h9 => h9) rfl d_K_floorOfRoot_18 ?_
      refine lv_ldc2 (v := 1000000000) hx hb hown (ha _ wm_K_74) d_K_floorOfRoot_21 ?_
      refine cs_callv (va_runV (As := [.long 1000000000]) (rest := []) ⟨hx, hb, hml, hown, ha⟩ (c_W_scale l dC dI (ad 13) (ad 14) (ad 15) cL ((rk_it (fun _ => rk_scl 4 1000000000) i u) 8) 1000000000 _) (cwV 1 ha g_K_W_scale rfl rfl rfl (by decide +kernel) ⟨Nat.le_trans (Nat.le_of_ble_eq_true rfl) hRf, Nat.le_trans (Nat.le_of_ble_eq_true rfl) hRl⟩) (ct_preV ct_G0ok trivial hK hP hD hS hA [13, 14] rfl (by decide) [0] rfl 13 0 rfl rfl rfl) rfl rfl hl.1 rfl (lv_room (Nat.le_of_ble_eq_true rfl)) d_K_floorOfRoot_24 ⟨hRc, hRs⟩) hP hD hS hA [13, 14] rfl (by decide) (fun _ => rfl) (fun u7 H locs hw hP hD hS => ?_)
      obtain rfl : u7 = _ := hw.trans (ir_eq _).symm
      obtain ⟨hP, hD⟩ : va_P (dC, dI) cl9 (rk_w ad cL (rk_scl 4 1000000000 (rk_it (fun _ => rk_scl 4 1000000000) i u))) H ∧ va_D A (rk_w ad cL (rk_scl 4 1000000000 (rk_it (fun _ => rk_scl 4 1000000000) i u))) := ct_eqP (rkw1_4 ad cL (rk_it (fun _ => rk_scl 4 1000000000) i u) _) hP hD
      refine lv_iinc (v := (nI (i + 1 + 1))) (lv' := [(4, .int (nI (i + 1 + 1))), (0, .ref (ad 0)), (3, .int (nI kn))]) hx hb d_K_floorOfRoot_27 hl (k := 2) rfl (by exact nI_1 (i + 1)) (by decide) rfl (fun ls hl => ?_)
      refine lv_goto (tgt := 11) hx hb d_K_floorOfRoot_30 (by decide) ?_
      exact ih (i + 1) (by omega) _ _ _ hP hD hS (lv_sub hl [1, 2, 0] rfl)
set_option maxHeartbeats 1000000 in
set_option maxRecDepth 100000 in
/-- the root's bits -/
theorem lp_K_rt2 {p : Program} {l : Launch} {e : Env} {R : Room} {s : State} {m : MethodId} {args : Array Value} {below : List Frame} {meth : Method} {c : Code} {Q : State → Prop} {A : Nat → Prop} {cells slots : Nat} {dC : Nat → ClassId} {dI : Nat → Nat → Nat} {ad : Nat → Nat} {cL : ClassId} {u : rk_U} {kn : Nat} (hF : ct_F p s m meth c b_K_floorOfRoot ((some .long)) 9 w_K_floorOfRoot y_K_floorOfRoot args) (hA : ∀ q, s.heap.size ≤ q → A q) (hK : va_K (dC, dI) cl9 [(cL, .long)] s) (hRf : 4 ≤ R.frames) (hRl : 101 ≤ R.locals) (hRc : cells ≤ R.cells) (hRs : slots ≤ R.slots) (hkn : 1 ≤ kn ∧ kn ≤ 5)
    (K : ∀ (H : Heap) (locs : List Loc) (ls : Array Slot), va_P (dC, dI) cl9 (rk_w ad cL ((rf_it kn u 40).2)) H → va_D A (rk_w ad cL ((rf_it kn u 40).2)) → va_S A s.heap H locs → lv_has ls 9 [(4, .long ((rf_it kn u 40).1))] → W p l e R s m args below meth c H locs cells slots Q (F0 m 84 ls [])) :
    ∀ (n9 i : Nat), i + n9 = 40 → ∀ (H : Heap) (locs : List Loc) (ls : Array Slot), va_P (dC, dI) cl9 (rk_w ad cL ((rf_it kn u i).2)) H → va_D A (rk_w ad cL ((rf_it kn u i).2)) → va_S A s.heap H locs → lv_has ls 9 [(0, .ref (ad 0)), (3, .int (nI kn)), (4, .long ((rf_it kn u i).1)), (6, .int (nI n9 + (-1)))] → W p l e R s m args below meth c H locs cells slots Q (F0 m 50 ls []) := by
  obtain ⟨hx, hb, hr, hml, hts, hown, hlocks, hnm⟩ := id hF
  have hown : s.vm.findClass R_K = some m.cls := hown
  have ha : ∀ w ∈ al_K, w.before args s = true := fun w h => hts w (List.mem_cons_of_mem _ h)
  intro n9
  induction n9 with
  | zero =>
    intro i hi H locs ls hP hD hS hl
    obtain rfl : 40 = i := by omega
    refine lv_iload hx hb d_K_floorOfRoot_50 (lv_at hl 3 rfl) ?_
    refine lv_if_lt (tgt := 84) hx hb d_K_floorOfRoot_52 (by decide) (fun hc => ?_) (fun hc => ?_)
    · exact K _ _ _ hP hD hS (lv_sub hl [2] rfl)
    · exact absurd (by decide) hc
  | succ n9 ih =>
    intro i hi H locs ls hP hD hS hl
    have hlt : i < 40 := by omega
    obtain rfl : n9 = 39 - i := by omega
    rw [pk_m1] at hl
    refine lv_iload hx hb d_K_floorOfRoot_50 (lv_at hl 3 rfl) ?_
    refine lv_if_lt (tgt := 84) hx hb d_K_floorOfRoot_52 (by decide) (fun hc => ?_) (fun hc => ?_)
    · exact absurd hc (nI_pos (by omega))
    · refine lv_lload hx hb d_K_floorOfRoot_55 (lv_at hl 2 rfl) ?_
      refine lv_lconst (v := 1) hx hb d_K_floorOfRoot_57 (by decide) ?_
      refine lv_iload hx hb d_K_floorOfRoot_58 (lv_at hl 3 rfl) ?_
      refine lv_lshl (v := (pu_sl 1 (nI (39 - i)))) hx hb d_K_floorOfRoot_60 rfl ?_
      refine lv_lor hx hb d_K_floorOfRoot_61 ?_
      refine lv_lstore (lv' := [(7, .long (((rf_it kn u i).1) ||| (pu_sl 1 (nI (39 - i))))), (0, .ref (ad 0)), (3, .int (nI kn)), (4, .long ((rf_it kn u i).1)), (6, .int (nI (39 - i)))]) hx hb d_K_floorOfRoot_62 hl (by decide) rfl (fun ls hl => ?_)
      refine lv_aload_n hx hb d_K_floorOfRoot_64 rfl (lv_at hl 1 rfl) ?_
      refine lv_lload hx hb d_K_floorOfRoot_65 (lv_at hl 0 rfl) ?_
      refine lv_iload_n hx hb d_K_floorOfRoot_67 rfl (lv_at hl 2 rfl) ?_
      have hl : lv_has ls 9 [(0, .ref (ad 0)), (3, .int (nI kn)), (4, .long ((rf_it kn u i).1)), (6, .int (nI (39 - i))), (7, .long (rf_t (rf_it kn u i).1 i))] := lv_sub hl [1, 2, 3, 4, 0] rfl
      refine cs_calli (va_runV (As := [.long (rf_t (rf_it kn u i).1 i), .int (nI kn)]) (rest := []) ⟨hx, hb, hml, hown, ha⟩ (c_K_isPowerWithinKept l dC dI ad cL ((rf_it kn u i).2) (rf_t (rf_it kn u i).1 i) kn hkn _) (cwV 2 ha g_K_K_isPowerWithinKept rfl rfl rfl (by decide +kernel) ⟨Nat.le_trans (Nat.le_of_ble_eq_true rfl) hRf, Nat.le_trans (Nat.le_of_ble_eq_true rfl) hRl⟩) (ct_preV ct_G0ok trivial hK hP hD hS hA [0, 1, 2, 3, 4, 5, 6, 7, 8, 9, 10, 11, 12, 13, 14, 15] rfl (by decide) [0] rfl 0 1 rfl rfl rfl) rfl rfl hl.1 rfl (lv_room (Nat.le_of_ble_eq_true rfl)) d_K_floorOfRoot_68 ⟨hRc, hRs⟩) hP hD hS hA [0, 1, 2, 3, 4, 5, 6, 7, 8, 9, 10, 11, 12, 13, 14, 15] rfl (by decide) (fun _ => rfl) (fun r9 u7 H locs hw hP hD hS => ?_)
      obtain ⟨hw1, hw2⟩ := hw
      subst hw1
      subst hw2
      obtain ⟨hP, hD⟩ : va_P (dC, dI) cl9 (rk_w ad cL (rk_pw (rf_t (rf_it kn u i).1 i) kn ((rf_it kn u i).2))) H ∧ va_D A (rk_w ad cL (rk_pw (rf_t (rf_it kn u i).1 i) kn ((rf_it kn u i).2))) := ct_eqP (rkwA ad cL ((rf_it kn u i).2) _) hP hD
      refine lv_if_eq (tgt := 78) hx hb d_K_floorOfRoot_71 (by decide) (fun h1 => ?_) (fun h1 => ?_)
      · refine lv_iinc (v := ((nI (39 - i)) + (-1))) (lv' := [(6, .int ((nI (39 - i)) + (-1))), (0, .ref (ad 0)), (3, .int (nI kn)), (4, .long ((rf_it kn u i).1)), (7, .long (rf_t (rf_it kn u i).1 i))]) hx hb d_K_floorOfRoot_78 hl (k := 3) rfl (rfl) (by decide) rfl (fun ls hl => ?_)
        refine lv_goto (tgt := 50) hx hb d_K_floorOfRoot_81 (by decide) ?_
        have e8 : (rf_it kn u (i + 1)).1 = _ := if_pos h1
        have hl : lv_has ls 9 [(6, .int ((nI (39 - i)) + (-1))), (0, .ref (ad 0)), (3, .int (nI kn)), (4, .long ((rf_it kn u (i + 1)).1)), (7, .long (rf_t (rf_it kn u i).1 i))] := by rw [e8]; exact hl
        exact ih (i + 1) (by omega) _ _ _ hP hD hS (lv_sub hl [1, 2, 3, 0] rfl)
      · refine lv_lload hx hb d_K_floorOfRoot_74 (lv_at hl 4 rfl) ?_
        refine lv_lstore (lv' := [(4, .long (rf_t (rf_it kn u i).1 i)), (0, .ref (ad 0)), (3, .int (nI kn)), (6, .int (nI (39 - i))), (7, .long (rf_t (rf_it kn u i).1 i))]) hx hb d_K_floorOfRoot_76 hl (by decide) rfl (fun ls hl => ?_)
        refine lv_iinc (v := ((nI (39 - i)) + (-1))) (lv' := [(6, .int ((nI (39 - i)) + (-1))), (4, .long (rf_t (rf_it kn u i).1 i)), (0, .ref (ad 0)), (3, .int (nI kn)), (7, .long (rf_t (rf_it kn u i).1 i))]) hx hb d_K_floorOfRoot_78 hl (k := 3) rfl (rfl) (by decide) rfl (fun ls hl => ?_)
        refine lv_goto (tgt := 50) hx hb d_K_floorOfRoot_81 (by decide) ?_
        have e8 : (rf_it kn u (i + 1)).1 = _ := if_neg h1
        have hl : lv_has ls 9 [(6, .int ((nI (39 - i)) + (-1))), (4, .long ((rf_it kn u (i + 1)).1)), (0, .ref (ad 0)), (3, .int (nI kn)), (7, .long (rf_t (rf_it kn u i).1 i))] := by rw [e8]; exact hl
        exact ih (i + 1) (by omega) _ _ _ hP hD hS (lv_sub hl [2, 3, 1, 0] rfl)
set_option maxHeartbeats 1000000 in
set_option maxRecDepth 100000 in
/-- the root, rounded down -/
theorem c_K_floorOfRoot (l : Launch) (dC : Nat → ClassId) (dI : Nat → Nat → Nat) (ad : Nat → Nat) (cL : ClassId) (u : rk_U) (v : Int64) (kn : Nat) (hkn : 1 ≤ kn ∧ kn ≤ 5) (sz : Nat) : ct_L l y_K_floorOfRoot w_K_floorOfRoot { frames := 4, cells := 0, slots := 0, locals := 101 } (dC, dI) cl9 [(cL, .long)] ct_G0 [.ref (ad 0), .long v, .int (nI kn)] (rk_w ad cL u) sz (S := rk_U) (fun r (u' : rk_U) => r = (rk_root v kn u).1 ∧ u' = (rk_root v kn u).2) (fun _ : rk_U => [(cL, .long)]) (fun u' : rk_U => rk_w ad cL u') 0 0 := by
  refine ct_of (Qf := fun A => va_Ql (fun r (u' : rk_U) => r = (rk_root v kn u).1 ∧ u' = (rk_root v kn u).2) (ct_B (S := rk_U) (dC, dI) cl9 (fun _ : rk_U => [(cL, .long)]) A (fun u' : rk_U => rk_w ad cL u')) A) (cc := b_K_floorOfRoot) (maxL := 9) (ret := ((some .long))) (by decide) rfl (Nat.le_of_ble_eq_true rfl) ?_
  intro p e s m below meth c A ls hF hA hP hK hD hG hS hl
  obtain ⟨hx, hb, hr, hml, hts, hown, hlocks, hnm⟩ := id hF
  have hown : s.vm.findClass R_K = some m.cls := hown
  have ha : ∀ w ∈ al_K, w.before [.ref (ad 0), .long v, .int (nI kn)].toArray s = true := fun w h => hts w (List.mem_cons_of_mem _ h)
  have hl : lv_has ls 9 [(0, .ref (ad 0)), (1, .long v), (3, .int (nI kn))] := hl
  refine lv_aload_n hx hb d_K_floorOfRoot_0 rfl (lv_at hl 0 rfl) ?_
  refine va_get (D := (dC, dI)) (ci := 1) (v := .ref (ad 13)) (C := R_K) (T := F_K) (N := 5) hx hb ha ui_K hown hK hP 0 rfl rfl 4 (by decide) (ha _ wm_K_10) (fun _ h9 => h9) rfl d_K_floorOfRoot_1 ?_
  refine lv_lload_n hx hb d_K_floorOfRoot_4 rfl (lv_at hl 1 rfl) ?_
  refine cs_callv (va_runV (As := [.long v]) (rest := []) ⟨hx, hb, hml, hown, ha⟩ (c_W_loadInteger l dC dI (ad 13) (ad 14) (ad 15) cL (u 8) v _) (cwV 1 ha g_K_W_loadInteger rfl rfl rfl (by decide +kernel) ⟨Nat.le_of_ble_eq_true rfl, Nat.le_of_ble_eq_true rfl⟩) (ct_preV ct_G0ok trivial hK hP hD hS hA [13, 14] rfl (by decide) [0] rfl 13 0 rfl rfl rfl) rfl rfl hl.1 rfl (lv_room (Nat.le_of_ble_eq_true rfl)) d_K_floorOfRoot_5 ⟨Nat.le_of_ble_eq_true rfl, Nat.le_of_ble_eq_true rfl⟩) hP hD hS hA [13, 14] rfl (by decide) (fun _ => rfl) (fun u7 H locs hw hP hD hS => ?_)
  obtain rfl : u7 = _ := hw.trans (ir_eq _).symm
  obtain ⟨hP, hD⟩ : va_P (dC, dI) cl9 (rk_w ad cL (rk_loadI 4 v u)) H ∧ va_D A (rk_w ad cL (rk_loadI 4 v u)) := ct_eqP (rkw1_4 ad cL u _) hP hD
  refine lv_iconst (v := 1) hx hb d_K_floorOfRoot_8 (by decide) ?_
  refine lv_istore (lv' := [(4, .int 1), (0, .ref (ad 0)), (1, .long v), (3, .int (nI kn))]) hx hb d_K_floorOfRoot_9 hl (by decide) rfl (fun ls hl => ?_)
  refine lp_K_rt1 (ad := ad) (cL := cL) (u := rk_loadI 4 v u) (kn := kn) hF hA hK (Nat.le_of_ble_eq_true rfl) (Nat.le_of_ble_eq_true rfl) (Nat.le_of_ble_eq_true rfl) (Nat.le_of_ble_eq_true rfl) hkn (fun H locs ls hP hD hS hl => ?_) (kn - 1) 0 (by omega) _ _ _ hP hD hS (lv_sub hl [1, 3, 0] rfl)
  refine lv_aload_n hx hb d_K_floorOfRoot_33 rfl (lv_at hl 0 rfl) ?_
  refine va_get (D := (dC, dI)) (ci := 1) (v := .ref (ad 13)) (C := R_K) (T := F_K) (N := 5) hx hb ha ui_K hown hK hP 0 rfl rfl 4 (by decide) (ha _ wm_K_10) (fun _ h9 => h9) rfl d_K_floorOfRoot_34 ?_
  refine lv_ldc2 (v := 1000) hx hb hown (ha _ wm_K_75) d_K_floorOfRoot_37 ?_
  refine cs_callv (va_runV (As := [.long 1000]) (rest := []) ⟨hx, hb, hml, hown, ha⟩ (c_W_scale l dC dI (ad 13) (ad 14) (ad 15) cL ((rk_it (fun _ => rk_scl 4 1000000000) (kn - 1) (rk_loadI 4 v u)) 8) 1000 _) (cwV 1 ha g_K_W_scale rfl rfl rfl (by decide +kernel) ⟨Nat.le_of_ble_eq_true rfl, Nat.le_of_ble_eq_true rfl⟩) (ct_preV ct_G0ok trivial hK hP hD hS hA [13, 14] rfl (by decide) [0] rfl 13 0 rfl rfl rfl) rfl rfl hl.1 rfl (lv_room (Nat.le_of_ble_eq_true rfl)) d_K_floorOfRoot_40 ⟨Nat.le_of_ble_eq_true rfl, Nat.le_of_ble_eq_true rfl⟩) hP hD hS hA [13, 14] rfl (by decide) (fun _ => rfl) (fun u7 H locs hw hP hD hS => ?_)
  obtain rfl : u7 = _ := hw.trans (ir_eq _).symm
  obtain ⟨hP, hD⟩ : va_P (dC, dI) cl9 (rk_w ad cL (rk_scl 4 1000 (rk_it (fun _ => rk_scl 4 1000000000) (kn - 1) (rk_loadI 4 v u)))) H ∧ va_D A (rk_w ad cL (rk_scl 4 1000 (rk_it (fun _ => rk_scl 4 1000000000) (kn - 1) (rk_loadI 4 v u)))) := ct_eqP (rkw1_4 ad cL (rk_it (fun _ => rk_scl 4 1000000000) (kn - 1) (rk_loadI 4 v u)) _) hP hD
  refine lv_lconst (v := 0) hx hb d_K_floorOfRoot_43 (by decide) ?_
  refine lv_lstore (lv' := [(4, .long 0), (0, .ref (ad 0)), (3, .int (nI kn))]) hx hb d_K_floorOfRoot_44 hl (by decide) rfl (fun ls hl => ?_)
  refine lv_bipush (v := 39) hx hb d_K_floorOfRoot_46 (by decide) ?_
  refine lv_istore (lv' := [(6, .int 39), (4, .long 0), (0, .ref (ad 0)), (3, .int (nI kn))]) hx hb d_K_floorOfRoot_48 hl (by decide) rfl (fun ls hl => ?_)
  refine lp_K_rt2 (ad := ad) (cL := cL) (u := rf_0 v kn u) (kn := kn) hF hA hK (Nat.le_of_ble_eq_true rfl) (Nat.le_of_ble_eq_true rfl) (Nat.le_of_ble_eq_true rfl) (Nat.le_of_ble_eq_true rfl) hkn (fun H locs ls hP hD hS hl => ?_) 40 0 (by omega) _ _ _ hP hD hS (lv_sub hl [2, 3, 1, 0] rfl)
  refine lv_lload hx hb d_K_floorOfRoot_84 (lv_at hl 0 rfl) ?_
  exact ct_lret hF d_K_floorOfRoot_86 ((rf_it kn (rf_0 v kn u) 40).2) (by unfold rk_root; rw [ir_eq]; exact ⟨rfl, rfl⟩) hP hD hK hS
