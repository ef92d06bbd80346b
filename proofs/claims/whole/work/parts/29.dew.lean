def dw_m (lo hi : Int32) : Int32 := pu_fdi (lo + hi + 1) 2
def dw_z (m : Int32) (v : rk_U) : Int32 := rk_rbz (141 * m.toInt64) (8 * (24304 + m.toInt64)) v
def dw_v (m : Int32) (v : rk_U) : rk_U := rk_rb (141 * m.toInt64) (8 * (24304 + m.toInt64)) v
def dw_st (u : rk_U) : Nat → Int32 × Int32 × rk_U
  | 0 => (-4001, 10000, u)
  | i + 1 => if dw_z (dw_m (dw_st u i).1 (dw_st u i).2.1) (dw_st u i).2.2 = 0 then ((dw_st u i).1, dw_m (dw_st u i).1 (dw_st u i).2.1 - 1, dw_v (dw_m (dw_st u i).1 (dw_st u i).2.1) (dw_st u i).2.2) else (dw_m (dw_st u i).1 (dw_st u i).2.1, (dw_st u i).2.1, dw_v (dw_m (dw_st u i).1 (dw_st u i).2.1) (dw_st u i).2.2)
def dw_n (u : rk_U) : Nat := rk_stop (fun i => if (dw_st u i).1 < (dw_st u i).2.1 then 0 else 1) 32 0
def dw_f (p : Int32 × Int32 × rk_U) : Int32 := p.1
def dw_lo (u : rk_U) : Int32 := dw_f (dw_st u (dw_n u))
theorem dw_f_of {x : Int32 × Int32 × rk_U} {lo hi : Int32} {v : rk_U} (h : x = (lo, hi, v)) : lo = dw_f x := by subst h; rfl
theorem dw_lo_of {u : rk_U} {lo hi : Int32} {v : rk_U} (h : dw_st u (dw_n u) = (lo, hi, v)) : lo = dw_lo u := dw_f_of h
def dw_0 (p : Int32) (u : rk_U) : rk_U := rk_cpy 4 0 (rk_log (p.toInt64 + 1) 610940 u)
def dw_r (lo : Int32) : Int64 := if -4000 ≤ lo then lo.toInt64 else -9223372036854775808
set_option maxHeartbeats 4000000 in
set_option maxRecDepth 100000 in
/-- whether a warmth's ratio is below what is kept -/
theorem c_F_isBelowKeptLog (l : Launch) (dC : Nat → ClassId) (dI : Nat → Nat → Nat) (fx : Nat) (sd : Int64) (tb tc : Nat) (ad : Nat → Nat) (cL : ClassId) (u : rk_U) (m : Int32) (sz : Nat) : ct_I l y_F_isBelowKeptLog w_F_isBelowKeptLog { frames := 4, cells := 0, slots := 0, locals := 101 } (dC, dI) cl9 [(cL, .long)] ct_G0 [.ref fx, .int m] (fw_w fx sd tb tc ad cL u) sz (S := rk_U) (fun r (u' : rk_U) => u' = dw_v m u ∧ r = dw_z m u) (fun _ : rk_U => [(cL, .long)]) (fun u' : rk_U => fw_w fx sd tb tc ad cL u') 0 0 := by
  refine ct_of (Qf := fun A => va_Qi (fun r (u' : rk_U) => u' = dw_v m u ∧ r = dw_z m u) (ct_B (S := rk_U) (dC, dI) cl9 (fun _ : rk_U => [(cL, .long)]) A (fun u' : rk_U => fw_w fx sd tb tc ad cL u')) A) (cc := b_F_isBelowKeptLog) (maxL := 2) (ret := ((some .boolean))) (by decide) rfl (Nat.le_of_ble_eq_true rfl) ?_
  intro p e s m9 below meth c A ls hF hA hP hK hD hG hS hl
  obtain ⟨hx, hb, hr, hml, hts, hown, hlocks, hnm⟩ := id hF
  have hown : s.vm.findClass R_F = some m9.cls := hown
  have ha : ∀ w ∈ al_F, w.before [.ref fx, .int m].toArray s = true := fun w h => hts w (List.mem_cons_of_mem _ h)
  have hl : lv_has ls 2 [(0, .ref fx), (1, .int m)] := hl
  refine lv_aload_n hx hb d_F_isBelowKeptLog_0 rfl (lv_at hl 0 rfl) ?_
  refine va_get (D := (dC, dI)) (ci := 3) (v := .ref (ad 0)) (C := R_F) (T := F_F) (N := 4) hx hb ha ui_F hown hK hP 0 rfl rfl 3 (by decide) (ha _ wm_F_10) (fun _ h9 => h9) rfl d_F_isBelowKeptLog_1 ?_
  refine lv_ldc2 (v := 141) hx hb hown (ha _ wm_F_68) d_F_isBelowKeptLog_4 ?_
  refine lv_iload_n hx hb d_F_isBelowKeptLog_7 rfl (lv_at hl 1 rfl) ?_
  refine lv_i2l hx hb d_F_isBelowKeptLog_8 rfl ?_
  refine lv_lmul hx hb d_F_isBelowKeptLog_9 ?_
  refine lv_ldc2 (v := 8) hx hb hown (ha _ wm_F_69) d_F_isBelowKeptLog_10 ?_
  refine lv_ldc2 (v := 24304) hx hb hown (ha _ wm_F_70) d_F_isBelowKeptLog_13 ?_
  refine lv_iload_n hx hb d_F_isBelowKeptLog_16 rfl (lv_at hl 1 rfl) ?_
  refine lv_i2l hx hb d_F_isBelowKeptLog_17 rfl ?_
  refine lv_ladd hx hb d_F_isBelowKeptLog_18 ?_
  refine lv_lmul hx hb d_F_isBelowKeptLog_19 ?_
  refine cs_calli (va_runV (As := [.long (141 * ((m : Int32).toInt64)), .long (8 * (24304 + ((m : Int32).toInt64)))]) (rest := []) ⟨hx, hb, hml, hown, ha⟩ (c_K_isRatioBelowKept l dC dI ad cL u (141 * m.toInt64) (8 * (24304 + m.toInt64)) _) (cwV 2 ha g_F_K_isRatioBelowKept rfl rfl rfl (by decide +kernel) ⟨Nat.le_of_ble_eq_true rfl, Nat.le_of_ble_eq_true rfl⟩) (ct_preV ct_G0ok trivial hK hP hD hS hA [1, 2, 3, 4, 5, 6, 7, 8, 9, 10, 11, 12, 13, 14, 15, 16] rfl (by decide) [0] rfl 1 1 rfl rfl rfl) rfl rfl hl.1 rfl (lv_room (Nat.le_of_ble_eq_true rfl)) d_F_isBelowKeptLog_20 ⟨Nat.le_of_ble_eq_true rfl, Nat.le_of_ble_eq_true rfl⟩) hP hD hS hA [1, 2, 3, 4, 5, 6, 7, 8, 9, 10, 11, 12, 13, 14, 15, 16] rfl (by decide) (fun _ => rfl) (fun r_2 u_1 H locs hu_1 hP hD hS => ?_)
  obtain ⟨hP, hD⟩ : va_P (dC, dI) cl9 (fw_w fx sd tb tc ad cL u_1) H ∧ va_D A (fw_w fx sd tb tc ad cL u_1) := ct_eqP (fkwA fx sd tb tc ad cL u _) hP hD
  obtain ⟨he1, he2⟩ := hu_1
  have hz9 : narrow .boolean (.int r_2) = .int r_2 := by rw [he2]; unfold rk_rbz; split <;> rfl
  exact ct_zret hF d_F_isBelowKeptLog_23 hz9 u_1 ⟨he1, he2⟩ hP hD hK hS
theorem fkwB (fx : Nat) (sd : Int64) (tb tc : Nat) (ad : Nat → Nat) (cL : ClassId) (u v : rk_U) : ct_sets (fw_w fx sd tb tc ad cL u) [0, 1, 2, 3, 4, 5, 6, 7, 8, 9, 10, 11, 12, 13, 14, 15, 16] (fw_w fx sd tb tc ad cL v) = fw_w fx sd tb tc ad cL v := rfl
set_option maxHeartbeats 1000000 in
set_option maxRecDepth 100000 in
/-- the search for the dew -/
theorem lp_F_dew {p : Program} {l : Launch} {e : Env} {R : Room} {s : State} {m : MethodId} {args : Array Value} {below : List Frame} {meth : Method} {c : Code} {Q : State → Prop} {A : Nat → Prop} {cells slots : Nat} {dC : Nat → ClassId} {dI : Nat → Nat → Nat} {fx : Nat} {sd : Int64} {tb tc : Nat} {ad : Nat → Nat} {cL : ClassId} {u : rk_U} (hF : ct_F p s m meth c b_F_dew (some .long) 6 w_F_dew y_F_dew args) (hA : ∀ q, s.heap.size ≤ q → A q) (hK : va_K (dC, dI) cl9 [(cL, .long)] s) (hRf : 5 ≤ R.frames) (hRl : 122 ≤ R.locals) (hRc : cells ≤ R.cells) (hRs : slots ≤ R.slots)
    (K : ∀ (lo hi : Int32) (v : rk_U), dw_st u (dw_n u) = (lo, hi, v) → ∀ (H : Heap) (locs : List Loc) (ls : Array Slot), va_P (dC, dI) cl9 (fw_w fx sd tb tc ad cL v) H → va_D A (fw_w fx sd tb tc ad cL v) → va_S A s.heap H locs → lv_has ls 6 [(2, .int lo)] → W p l e R s m args below meth c H locs cells slots Q (F0 m 90 ls [])) :
    ∀ (n9 i : Nat), i + n9 = 32 → dw_n u = rk_stop (fun i => if (dw_st u i).1 < (dw_st u i).2.1 then 0 else 1) n9 i → ∀ (lo hi : Int32) (v : rk_U), dw_st u i = (lo, hi, v) → ∀ (H : Heap) (locs : List Loc) (ls : Array Slot), va_P (dC, dI) cl9 (fw_w fx sd tb tc ad cL v) H → va_D A (fw_w fx sd tb tc ad cL v) → va_S A s.heap H locs → lv_has ls 6 [(0, .ref fx), (2, .int lo), (3, .int hi), (4, .int (nI i))] → W p l e R s m args below meth c H locs cells slots Q (F0 m 41 ls []) := by
  obtain ⟨hx, hb, hr, hml, hts, hown, hlocks, hnm⟩ := id hF
  have hown : s.vm.findClass R_F = some m.cls := hown
  have ha : ∀ w ∈ al_F, w.before args s = true := fun w h => hts w (List.mem_cons_of_mem _ h)
  intro n9
  induction n9 with
  | zero =>
    intro i hi9 hinv lo hi v hv9 H locs ls hP hD hS hl
    obtain rfl : 32 = i := by omega
    refine lv_iload hx hb d_F_dew_41 (lv_at hl 3 rfl) ?_
    refine lv_bipush (v := 32) hx hb d_F_dew_43 (by decide) ?_
    refine lv_icmp_ge (tgt := 90) hx hb d_F_dew_45 (by decide) (fun hc => ?_) (fun hc => ?_)
    · exact K lo hi v ((congrArg (dw_st u) hinv).trans hv9) _ _ _ hP hD hS (lv_sub hl [1] rfl)
    · exact absurd (show nI 32 ≤ nI 32 from nI_le (by omega) (by omega)) hc
  | succ n9 ih =>
    intro i hi9 hinv lo hi v hv9 H locs ls hP hD hS hl
    refine lv_iload hx hb d_F_dew_41 (lv_at hl 3 rfl) ?_
    refine lv_bipush (v := 32) hx hb d_F_dew_43 (by decide) ?_
    refine lv_icmp_ge (tgt := 90) hx hb d_F_dew_45 (by decide) (fun hc => ?_) (fun hc => ?_)
    · exact absurd (show nI 32 ≤ nI i from hc) (nI_ge (by omega) (by omega))
    · refine lv_iload_n hx hb d_F_dew_48 rfl (lv_at hl 1 rfl) ?_
      refine lv_iload_n hx hb d_F_dew_49 rfl (lv_at hl 2 rfl) ?_
      refine lv_icmp_ge (tgt := 90) hx hb d_F_dew_50 (by decide) (fun h1 => ?_) (fun h1 => ?_)
      · have e8 : dw_n u = i := hinv.trans (if_neg (fun q => absurd ((if_neg (by rw [hv9]; exact Int32.not_lt.mpr h1)).symm.trans q) (by decide)))
        exact K lo hi v ((congrArg (dw_st u) e8).trans hv9) _ _ _ hP hD hS (lv_sub hl [1] rfl)
      · refine lv_iload_n hx hb d_F_dew_53 rfl (lv_at hl 1 rfl) ?_
        refine lv_iload_n hx hb d_F_dew_54 rfl (lv_at hl 2 rfl) ?_
        refine lv_iadd hx hb d_F_dew_55 ?_
        refine lv_iconst (v := 1) hx hb d_F_dew_56 (by decide) ?_
        refine lv_iadd hx hb d_F_dew_57 ?_
        refine lv_iconst (v := 2) hx hb d_F_dew_58 (by decide) ?_
        refine cs_calli (va_runS (As := [.int ((lo + hi) + 1), .int 2]) (rest := []) ⟨hx, hb, hml, hown, ha⟩ (c_fdI l dC dI (lo + hi + 1) 2 (by decide) _) (va_cwS 2 ha g_F_Math_floorDiv_III rfl rfl rfl (by decide +kernel) ⟨Nat.le_trans (Nat.le_of_ble_eq_true rfl) hRf, Nat.le_trans (Nat.le_of_ble_eq_true rfl) hRl⟩) (ct_pre ct_G0ok trivial hK hP hD hS hA [] rfl (by decide) [] rfl) rfl rfl hl.1 rfl (lv_room (Nat.le_of_ble_eq_true rfl)) d_F_dew_59 ⟨hRc, hRs⟩) hP hD hS hA [] rfl (by decide) (fun _ => rfl) (fun m9 u7 H locs hm9 hP hD hS => ?_)
        obtain ⟨hP, hD⟩ : va_P (dC, dI) cl9 (fw_w fx sd tb tc ad cL v) H ∧ va_D A (fw_w fx sd tb tc ad cL v) := ct_eqP (ct_sets_nil _ _) hP hD
        refine lv_istore (lv' := [(5, .int m9), (0, .ref fx), (2, .int lo), (3, .int hi), (4, .int (nI i))]) hx hb d_F_dew_62 hl (by decide) rfl (fun ls hl => ?_)
        refine lv_aload_n hx hb d_F_dew_64 rfl (lv_at hl 1 rfl) ?_
        refine lv_iload hx hb d_F_dew_65 (lv_at hl 0 rfl) ?_
        refine cs_calli (va_runV (As := [.int m9]) (rest := []) ⟨hx, hb, hml, hown, ha⟩ (c_F_isBelowKeptLog l dC dI fx sd tb tc ad cL v m9 _) (cwV 1 ha g_F_F_isBelowKeptLog rfl rfl rfl (by decide +kernel) ⟨Nat.le_trans (Nat.le_of_ble_eq_true rfl) hRf, Nat.le_trans (Nat.le_of_ble_eq_true rfl) hRl⟩) (ct_preV ct_G0ok trivial hK hP hD hS hA [0, 1, 2, 3, 4, 5, 6, 7, 8, 9, 10, 11, 12, 13, 14, 15, 16] rfl (by decide) [0] rfl 0 3 rfl rfl rfl) rfl rfl hl.1 rfl (lv_room (Nat.le_of_ble_eq_true rfl)) d_F_dew_67 ⟨hRc, hRs⟩) hP hD hS hA [0, 1, 2, 3, 4, 5, 6, 7, 8, 9, 10, 11, 12, 13, 14, 15, 16] rfl (by decide) (fun _ => rfl) (fun z9 v9 H locs hz9 hP hD hS => ?_)
        obtain ⟨hz1, hz2⟩ := hz9
        obtain ⟨hP, hD⟩ : va_P (dC, dI) cl9 (fw_w fx sd tb tc ad cL v9) H ∧ va_D A (fw_w fx sd tb tc ad cL v9) := ct_eqP (fkwB fx sd tb tc ad cL v v9) hP hD
        have e7 : dw_st u (i + 1) = if dw_z m9 v = 0 then (lo, m9 - 1, dw_v m9 v) else (m9, hi, dw_v m9 v) := by rw [dw_st, hv9, hm9]; rfl
        rw [← hz1, ← hz2] at e7
        have hn9 : dw_n u = rk_stop (fun i => if (dw_st u i).1 < (dw_st u i).2.1 then 0 else 1) n9 (i + 1) := hinv.trans (if_pos (if_pos (by rw [hv9]; exact Int32.not_le.mp h1)))
        refine lv_if_eq (tgt := 79) hx hb d_F_dew_70 (by decide) (fun h2 => ?_) (fun h2 => ?_)
        · refine lv_iload hx hb d_F_dew_79 (lv_at hl 0 rfl) ?_
          refine lv_iconst (v := 1) hx hb d_F_dew_81 (by decide) ?_
          refine lv_isub hx hb d_F_dew_82 ?_
          refine lv_istore_n (lv' := [(3, .int (m9 - 1)), (5, .int m9), (0, .ref fx), (2, .int lo), (4, .int (nI i))]) hx hb d_F_dew_83 rfl hl (by decide) rfl (fun ls hl => ?_)
          refine lv_iinc (v := (nI (i + 1))) (lv' := [(4, .int (nI (i + 1))), (3, .int (m9 - 1)), (5, .int m9), (0, .ref fx), (2, .int lo)]) hx hb d_F_dew_84 hl (k := 4) rfl (by exact nI_1 i) (by decide) rfl (fun ls hl => ?_)
          refine lv_goto (tgt := 41) hx hb d_F_dew_87 (by decide) ?_
          exact ih (i + 1) (by omega) hn9 lo (m9 - 1) v9 (e7.trans (if_pos h2)) _ _ _ hP hD hS (lv_sub hl [3, 4, 1, 0] rfl)
        · refine lv_iload hx hb d_F_dew_73 (lv_at hl 0 rfl) ?_
          refine lv_istore_n (lv' := [(2, .int m9), (5, .int m9), (0, .ref fx), (3, .int hi), (4, .int (nI i))]) hx hb d_F_dew_75 rfl hl (by decide) rfl (fun ls hl => ?_)
          refine lv_goto (tgt := 84) hx hb d_F_dew_76 (by decide) ?_
          refine lv_iinc (v := (nI (i + 1))) (lv' := [(4, .int (nI (i + 1))), (2, .int m9), (5, .int m9), (0, .ref fx), (3, .int hi)]) hx hb d_F_dew_84 hl (k := 4) rfl (by exact nI_1 i) (by decide) rfl (fun ls hl => ?_)
          refine lv_goto (tgt := 41) hx hb d_F_dew_87 (by decide) ?_
          exact ih (i + 1) (by omega) hn9 m9 hi v9 (e7.trans (if_neg h2)) _ _ _ hP hD hS (lv_sub hl [3, 1, 4, 0] rfl)
set_option maxHeartbeats 1000000 in
set_option maxRecDepth 100000 in
/-- the dew of a pressure -/
theorem c_F_dew (l : Launch) (hst : l.stackTraces = false) (dC : Nat → ClassId) (dI : Nat → Nat → Nat) (fx : Nat) (sd : Int64) (tb tc : Nat) (ad : Nat → Nat) (cL : ClassId) (u : rk_U) (s1 s2 s3 s4 tl th ta : Nat) (p9 : Int32) (sz : Nat) : cx_L l y_F_dew w_F_dew { frames := 7, cells := 1, slots := 6, locals := 160 } (dC, dI) cl9 [(cL, .long)] (fg_G s1 s2 s3 s4 tl th ta) [.ref fx, .int p9] (fw_w fx sd tb tc ad cL u) sz (S := rk_U) (fun r (u' : rk_U) => (0 ≤ p9.toInt64 ∧ p9.toInt64 ≤ 1000000000) ∧ r = dw_r (dw_lo (dw_0 p9 u))) (fun _ : rk_U => [(cL, .long)]) (fun u' : rk_U => fw_w fx sd tb tc ad cL u') (fun E => E = "java/lang/IllegalArgumentException" ∧ (p9.toInt64 < 0 ∨ 1000000000 < p9.toInt64)) 1 6 := by
  refine cx_of (Qf := fun A => va_Ql (fun r (u' : rk_U) => (0 ≤ p9.toInt64 ∧ p9.toInt64 ≤ 1000000000) ∧ r = dw_r (dw_lo (dw_0 p9 u))) (ct_B (S := rk_U) (dC, dI) cl9 (fun _ : rk_U => [(cL, .long)]) A (fun u' : rk_U => fw_w fx sd tb tc ad cL u')) A) (Xf := cx_XC (dC, dI) cl9 [(cL, .long)] (fw_w fx sd tb tc ad cL u) (fun E => E = "java/lang/IllegalArgumentException" ∧ (p9.toInt64 < 0 ∨ 1000000000 < p9.toInt64))) (cc := b_F_dew) (maxL := 6) (ret := ((some .long))) (by decide) rfl (Nat.le_of_ble_eq_true rfl) ?_
  intro p e s m below meth c A ls hF hno hA hP hK hD hG hS hl
  obtain ⟨hx, hb, hr, hml, hts, hown, hlocks, hnm⟩ := id hF
  have hown : s.vm.findClass R_F = some m.cls := hown
  have ha : ∀ w ∈ al_F, w.before [.ref fx, .int p9].toArray s = true := fun w h => hts w (List.mem_cons_of_mem _ h)
  have hl : lv_has ls 6 [(0, .ref fx), (1, .int p9)] := hl
  refine lv_iload_n hx hb d_F_dew_0 rfl (lv_at hl 1 rfl) ?_
  refine lv_i2l hx hb d_F_dew_1 rfl ?_
  refine lv_lconst (v := 0) hx hb d_F_dew_2 (by decide) ?_
  refine lv_ldc2 (v := 1000000000) hx hb hown (ha _ wm_F_22) d_F_dew_3 ?_
  refine cx_callv (vx_runS (As := [.long ((p9 : Int32).toInt64), .long 0, .long 1000000000]) (rest := []) ⟨hx, hb, hml, hown, ha⟩ (c_F_demandWithin l hst dC dI ((p9 : Int32).toInt64) 0 1000000000 s1 s2 s3 s4 _) (va_cwS 3 ha g_F_F_demandWithin rfl rfl rfl (by decide +kernel) ⟨Nat.le_of_ble_eq_true rfl, Nat.le_of_ble_eq_true rfl⟩) (ct_pre (xg_Gok s1 s2 s3 s4) hG.1 hK hP hD hS hA [] rfl (by decide) [] rfl) rfl rfl hl.1 rfl (lv_room (Nat.le_of_ble_eq_true rfl)) d_F_dew_6 ⟨Nat.le_of_ble_eq_true rfl, Nat.le_of_ble_eq_true rfl⟩) hP hD hS hA [] rfl (by decide) (fun _ => rfl) (fun E ce q9 H locs hE hP hS hcell hv hcl => cx_out hno hlocks hE hP hK hD hS hcell hv hcl (Nat.le_of_ble_eq_true rfl) (Nat.le_of_ble_eq_true rfl)) (fun u7 H locs hq hP hD hS => ?_)
  obtain ⟨hP, hD⟩ : va_P (dC, dI) cl9 (fw_w fx sd tb tc ad cL u) H ∧ va_D A (fw_w fx sd tb tc ad cL u) := ct_eqP (ct_sets_nil _ _) hP hD
  refine lv_aload_n hx hb d_F_dew_9 rfl (lv_at hl 0 rfl) ?_
  refine va_get (D := (dC, dI)) (ci := 3) (v := .ref (ad 0)) (C := R_F) (T := F_F) (N := 4) hx hb ha ui_F hown hK hP 0 rfl rfl 3 (by decide) (ha _ wm_F_10) (fun _ h9 => h9) rfl d_F_dew_10 ?_
  refine lv_iload_n hx hb d_F_dew_13 rfl (lv_at hl 1 rfl) ?_
  refine lv_i2l hx hb d_F_dew_14 rfl ?_
  refine lv_lconst (v := 1) hx hb d_F_dew_15 (by decide) ?_
  refine lv_ladd hx hb d_F_dew_16 ?_
  refine lv_ldc2 (v := 610940) hx hb hown (ha _ wm_F_76) d_F_dew_17 ?_
  refine cs_callv (va_runV (As := [.long (((p9 : Int32).toInt64) + 1), .long 610940]) (rest := []) ⟨hx, hb, hml, hown, ha⟩ (c_K_takeLog l dC dI ad cL u (p9.toInt64 + 1) 610940 tl th ta _) (cwV 2 ha g_F_K_takeLog rfl rfl rfl (by decide +kernel) ⟨Nat.le_of_ble_eq_true rfl, Nat.le_of_ble_eq_true rfl⟩) (ct_preV (kg_Gok tl th ta) hG.2 hK hP hD hS hA [1, 2, 3, 4, 5, 6, 7, 8, 9, 10, 11, 12, 13, 14, 15, 16] rfl (by decide) [0] rfl 1 1 rfl rfl rfl) rfl rfl hl.1 rfl (lv_room (Nat.le_of_ble_eq_true rfl)) d_F_dew_20 ⟨Nat.le_of_ble_eq_true rfl, Nat.le_of_ble_eq_true rfl⟩) hP hD hS hA [1, 2, 3, 4, 5, 6, 7, 8, 9, 10, 11, 12, 13, 14, 15, 16] rfl (by decide) (fun _ => rfl) (fun u_1 H locs hu_1 hP hD hS => ?_)
  obtain ⟨hP, hD⟩ : va_P (dC, dI) cl9 (fw_w fx sd tb tc ad cL u_1) H ∧ va_D A (fw_w fx sd tb tc ad cL u_1) := ct_eqP (fkwA fx sd tb tc ad cL u _) hP hD
  refine lv_aload_n hx hb d_F_dew_23 rfl (lv_at hl 0 rfl) ?_
  refine va_get (D := (dC, dI)) (ci := 3) (v := .ref (ad 0)) (C := R_F) (T := F_F) (N := 4) hx hb ha ui_F hown hK hP 0 rfl rfl 3 (by decide) (ha _ wm_F_10) (fun _ h9 => h9) rfl d_F_dew_24 ?_
  refine cs_callv (va_runV (As := []) (rest := []) ⟨hx, hb, hml, hown, ha⟩ (c_K_keepLog l dC dI ad cL u_1 _) (cwV 0 ha g_F_K_keepLog rfl rfl rfl (by decide +kernel) ⟨Nat.le_of_ble_eq_true rfl, Nat.le_of_ble_eq_true rfl⟩) (ct_preV ct_G0ok trivial hK hP hD hS hA [1, 2, 3, 4, 5, 6, 7, 8, 9, 10, 11, 12, 13, 14, 15, 16] rfl (by decide) [0] rfl 1 1 rfl rfl rfl) rfl rfl hl.1 rfl (lv_room (Nat.le_of_ble_eq_true rfl)) d_F_dew_27 ⟨Nat.le_of_ble_eq_true rfl, Nat.le_of_ble_eq_true rfl⟩) hP hD hS hA [1, 2, 3, 4, 5, 6, 7, 8, 9, 10, 11, 12, 13, 14, 15, 16] rfl (by decide) (fun _ => rfl) (fun u_3 H locs hu_3 hP hD hS => ?_)
  obtain ⟨hP, hD⟩ : va_P (dC, dI) cl9 (fw_w fx sd tb tc ad cL u_3) H ∧ va_D A (fw_w fx sd tb tc ad cL u_3) := ct_eqP (fkwA fx sd tb tc ad cL u_1 _) hP hD
  refine lv_sipush (v := (-4001)) hx hb d_F_dew_30 (by decide) ?_
  refine lv_istore_n (lv' := [(2, .int (-4001)), (0, .ref fx), (1, .int p9)]) hx hb d_F_dew_33 rfl hl (by decide) rfl (fun ls hl => ?_)
  refine lv_sipush (v := 10000) hx hb d_F_dew_34 (by decide) ?_
  refine lv_istore_n (lv' := [(3, .int 10000), (2, .int (-4001)), (0, .ref fx), (1, .int p9)]) hx hb d_F_dew_37 rfl hl (by decide) rfl (fun ls hl => ?_)
  refine lv_iconst (v := 0) hx hb d_F_dew_38 (by decide) ?_
  refine lv_istore (lv' := [(4, .int 0), (3, .int 10000), (2, .int (-4001)), (0, .ref fx), (1, .int p9)]) hx hb d_F_dew_39 hl (by decide) rfl (fun ls hl => ?_)
  have hu0 : u_3 = dw_0 p9 u := by subst hu_3; subst hu_1; rfl
  refine lp_F_dew (fx := fx) (sd := sd) (tb := tb) (tc := tc) (ad := ad) (cL := cL) (u := u_3) hF hA hK (Nat.le_of_ble_eq_true rfl) (Nat.le_of_ble_eq_true rfl) (Nat.le_of_ble_eq_true rfl) (Nat.le_of_ble_eq_true rfl) (fun lo hi v hv9 H locs ls hP hD hS hl => ?_) 32 0 (by omega) rfl (-4001) 10000 u_3 rfl _ _ _ hP hD hS (lv_sub hl [3, 2, 1, 0] rfl)
  have hlo : lo = dw_lo (dw_0 p9 u) := (dw_lo_of hv9).trans (congrArg dw_lo hu0)
  refine lv_iload_n hx hb d_F_dew_90 rfl (lv_at hl 0 rfl) ?_
  refine lv_sipush (v := (-4000)) hx hb d_F_dew_91 (by decide) ?_
  refine lv_icmp_ge (tgt := 103) hx hb d_F_dew_94 (by decide) (fun h1 => ?_) (fun h1 => ?_)
  · refine lv_iload_n hx hb d_F_dew_103 rfl (lv_at hl 0 rfl) ?_
    refine lv_i2l hx hb d_F_dew_104 rfl ?_
    refine W.widen (k := 1) (n := 6) (Nat.le_of_ble_eq_true rfl) (Nat.le_of_ble_eq_true rfl) ?_
    exact vx_ret (ct_lret hF d_F_dew_105 v (by rw [← hlo]; exact ⟨hq, (if_pos h1).symm⟩) hP hD hK hS)
  · refine lv_ldc2 (v := (-9223372036854775808)) hx hb hown (ha _ wm_F_39) d_F_dew_97 ?_
    refine lv_goto (tgt := 105) hx hb d_F_dew_100 (by decide) ?_
    refine W.widen (k := 1) (n := 6) (Nat.le_of_ble_eq_true rfl) (Nat.le_of_ble_eq_true rfl) ?_
    exact vx_ret (ct_lret hF d_F_dew_105 v (by rw [← hlo]; exact ⟨hq, (if_neg h1).symm⟩) hP hD hK hS)
