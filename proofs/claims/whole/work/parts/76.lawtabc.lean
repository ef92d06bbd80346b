set_option maxHeartbeats 4000000 in
set_option maxRecDepth 100000 in
/-- the law's case of table -/
theorem ca_table {p : Program} {l : Launch} {e : Env} {s : State} {m : MethodId} {below : List Frame} {meth : Method} {c : Code} {dC : Nat → ClassId} {dI : Nat → Nat → Nat} {b L : Nat} {xs : Nat → Int32} {ot mx : Nat} {sd : Int64} {ro pl vl pa pr : Nat} {cL cI cT : ClassId} {fx tb : Nat} {ad tt : Nat → Nat} {s1 s2 s3 s4 tl th9 ta : Nat} {cells slots : Nat} (hL : L ≤ 2049) (C0 : lw_At p s m meth c b L xs) (hst : l.stackTraces = false) (hG : lg_G s1 s2 s3 s4 tl th9 ta (fun q : Nat => s.heap.size ≤ q) s s.heap) (hK : va_K (dC, dI) cl9 [(cL, .long), (cT, .object "HouseFunctions$Table"), (cI, .int)] s) {i : Nat} (hi : i + 3 < L) (hc9 : cells + 4 ≤ 601024) (hs9 : slots + 24 ≤ 7293000)
    (K : ∀ (o : Nat → Int64) (tw : Int32) (n : Nat) (f : Nat) (cc : Nat → Nat) (P9 : Nat → Int32) (V9 : Nat → Int32) (g : Nat → Int64) (p9 : Nat → Int64) (tc : Nat) (T : fq_T) (u : rk_U), lw_J n f cc P9 V9 tc T → ∀ (H : Heap) (locs : List Loc) (ls : Array Slot), va_P (dC, dI) cl9 (lw_ws ot o mx tw sd n ro pl vl f pa pr cL cI cT cc P9 V9 g p9 fx tb ad tt tc T u) H → va_D (fun q : Nat => s.heap.size ≤ q) (lw_ws ot o mx tw sd n ro pl vl f pa pr cL cI cT cc P9 V9 g p9 fx tb ad tt tc T u) → va_S (fun q : Nat => s.heap.size ≤ q) s.heap H locs → lv_has ls 8 [(0, .ref b), (1, .ref fx), (2, .ref mx), (3, .ref ot), (4, .int (nI i))] → W p l e room_1 s m #[Value.ref b] below meth c H locs (cells + 4) (slots + 24) (lw_Z below #[Value.ref b] s) (F0 m 995 ls [])) :
    ∀ (o : Nat → Int64) (tw : Int32) (n : Nat) (f : Nat) (cc : Nat → Nat) (P9 : Nat → Int32) (V9 : Nat → Int32) (g : Nat → Int64) (p9 : Nat → Int64) (tc : Nat) (T : fq_T) (u : rk_U), lw_J n f cc P9 V9 tc T → ∀ (H : Heap) (locs : List Loc) (ls : Array Slot), va_P (dC, dI) cl9 (lw_ws ot o mx tw sd n ro pl vl f pa pr cL cI cT cc P9 V9 g p9 fx tb ad tt tc T u) H → va_D (fun q : Nat => s.heap.size ≤ q) (lw_ws ot o mx tw sd n ro pl vl f pa pr cL cI cT cc P9 V9 g p9 fx tb ad tt tc T u) → va_S (fun q : Nat => s.heap.size ≤ q) s.heap H locs → lv_has ls 8 [(0, .ref b), (1, .ref fx), (2, .ref mx), (3, .ref ot), (4, .int (nI i))] → W p l e room_1 s m #[Value.ref b] below meth c H locs cells slots (lw_Z below #[Value.ref b] s) (F0 m 656 ls []) := by
  obtain ⟨hx, hb, hr, hml, hown, hts, hX, hbl, hlocks, hgv⟩ := C0
  have hA : ∀ q : Nat, s.heap.size ≤ q → (fun q : Nat => s.heap.size ≤ q) q := fun _ h => h
  have hbA : ¬ (fun q : Nat => s.heap.size ≤ q) b := Nat.not_le.mpr hbl
  have ha : ∀ w ∈ al_L, w.before #[Value.ref b] s = true := fun w h => hts w (am_L w h)
  intro o tw n f cc P9 V9 g p9 tc T u hJ H locs ls hP hD hS hl
  refine lv_aload_n hx hb d_law_656 rfl (lv_at hl 1 rfl) ?_
  refine lv_aload_n hx hb d_law_657 rfl (lv_at hl 3 rfl) ?_
  refine cs_calli (vx_runSW (As := [.ref fx, .ref ot]) (rest := []) ⟨hx, hb, hml, hown, hts⟩ (c_L_table l hst dC dI ot o fx sd tb tc (ad 0) hJ.2.2.1 cL s1 s2 s3 s4 tl th9 ta _) (vx_cwSW 2 hts g_law_L_table rfl rfl rfl (by decide +kernel) ⟨Nat.le_of_ble_eq_true rfl, Nat.le_of_ble_eq_true rfl⟩) (ct_pre (lg_Gok s1 s2 s3 s4 tl th9 ta) hG hK hP hD hS hA [0, 7] rfl (by decide) [0] rfl) rfl rfl hl.1 rfl (lv_room (Nat.le_of_ble_eq_true rfl)) d_law_658 ⟨show _ ≤ 601024 by omega, show _ ≤ 7293000 by omega⟩) hP hD hS hA [0, 7] rfl (by decide) (fun _ => rfl) (fun r1 w1 H locs hr1 hP hD hS => ?_)
  obtain ⟨o1, tc1⟩ := w1
  obtain ⟨hP, hD⟩ : va_P (dC, dI) cl9 (lw_ws ot o1 mx tw sd n ro pl vl f pa pr cL cI cT cc P9 V9 g p9 fx tb ad tt tc1 T u) H ∧ va_D (fun q : Nat => s.heap.size ≤ q) (lw_ws ot o1 mx tw sd n ro pl vl f pa pr cL cI cT cc P9 V9 g p9 fx tb ad tt tc1 T u) := ct_eqP (lwsC ot o o1 mx tw sd n ro pl vl f pa pr cL cI cT cc P9 V9 g p9 fx tb ad tt tc tc1 T u) hP hD
  refine lv_istore (lv' := [(5, .int r1), (0, .ref b), (1, .ref fx), (2, .ref mx), (3, .ref ot), (4, .int (nI i))]) hx hb d_law_661 hl (by decide) rfl (fun ls hl => ?_)
  refine lv_aload_n hx hb d_law_663 rfl (lv_at hl 3 rfl) ?_
  refine cs_calli (va_runV (As := []) (rest := []) ⟨hx, hb, hml, hown, hts⟩ (c_M_table l dC dI mx tw sd n ro pl vl f pa pr cI cc (J_cc hJ).1 _) (cwV 0 hts g_law_M_table rfl rfl rfl (by decide +kernel) ⟨Nat.le_of_ble_eq_true rfl, Nat.le_of_ble_eq_true rfl⟩) (ct_preV ct_G0ok trivial hK hP hD hS hA [1, 2] rfl (by decide) [2] rfl 1 4 rfl rfl rfl) rfl rfl hl.1 rfl (lv_room (Nat.le_of_ble_eq_true rfl)) d_law_664 ⟨show _ ≤ 601024 by omega, show _ ≤ 7293000 by omega⟩) hP hD hS hA [1, 2] rfl (by decide) (fun _ => rfl) (fun v2 w2 H locs hv2 hP hD hS => ?_)
  have hK9 := tb_step hJ hr1 hv2
  obtain ⟨t2, n2, cc2⟩ := w2
  obtain ⟨hP, hD⟩ : va_P (dC, dI) cl9 (lw_ws ot o1 mx t2 sd n2 ro pl vl f pa pr cL cI cT cc2 P9 V9 g p9 fx tb ad tt tc1 T u) H ∧ va_D (fun q : Nat => s.heap.size ≤ q) (lw_ws ot o1 mx t2 sd n2 ro pl vl f pa pr cL cI cT cc2 P9 V9 g p9 fx tb ad tt tc1 T u) := ct_eqP (lwsF ot o1 mx tw t2 sd n n2 ro pl vl f pa pr cL cI cT cc cc2 P9 V9 g p9 fx tb ad tt tc1 T u) hP hD
  refine lv_istore (lv' := [(6, .int v2), (5, .int r1), (0, .ref b), (1, .ref fx), (2, .ref mx), (3, .ref ot), (4, .int (nI i))]) hx hb d_law_667 hl (by decide) rfl (fun ls hl => ?_)
  refine lv_aload_n hx hb d_law_669 rfl (lv_at hl 4 rfl) ?_
  refine cs_calli (va_runV (As := []) (rest := []) ⟨hx, hb, hml, hown, hts⟩ (c_M_thrown l dC dI mx t2 sd (nI n2) ro pl vl f pa pr _) (cwV 0 hts g_law_M_thrown rfl rfl rfl (by decide +kernel) ⟨Nat.le_of_ble_eq_true rfl, Nat.le_of_ble_eq_true rfl⟩) (ct_preV ct_G0ok trivial hK hP hD hS hA [1] rfl (by decide) [] rfl 1 4 rfl rfl rfl) rfl rfl hl.1 rfl (lv_room (Nat.le_of_ble_eq_true rfl)) d_law_670 ⟨show _ ≤ 601024 by omega, show _ ≤ 7293000 by omega⟩) hP hD hS hA [1] rfl (by decide) (fun _ => rfl) (fun r3 w3 H locs hr3 hP hD hS => ?_)
  obtain ⟨hP, hD⟩ : va_P (dC, dI) cl9 (lw_ws ot o1 mx t2 sd n2 ro pl vl f pa pr cL cI cT cc2 P9 V9 g p9 fx tb ad tt tc1 T u) H ∧ va_D (fun q : Nat => s.heap.size ≤ q) (lw_ws ot o1 mx t2 sd n2 ro pl vl f pa pr cL cI cT cc2 P9 V9 g p9 fx tb ad tt tc1 T u) := ct_eqP (lwsG ot o1 mx t2 t2 sd n2 ro pl vl f pa pr cL cI cT cc2 P9 V9 g p9 fx tb ad tt tc1 T u) hP hD
  refine lv_iload hx hb d_law_673 (lv_at hl 1 rfl) ?_
  have h3 : r3 = r1 := (show r3 = t2 from hr3).trans hK9.1.symm
  refine lv_icmp_eq (tgt := 680) hx hb d_law_675 (by decide) (fun hq => ?_) (fun hq => ?_)
  · refine lv_iload hx hb d_law_680 (lv_at hl 1 rfl) ?_
    refine lv_if_ne (tgt := 697) hx hb d_law_682 (by decide) (fun hz => ?_) (fun hz => ?_)
    · refine lv_goto (tgt := 995) hx hb d_law_697 (by decide) ?_
      refine W.widen (k := cells + 4) (n := slots + 24) (by omega) (by omega) ?_
      exact K o1 t2 n2 f cc2 P9 V9 g p9 tc1 T u hK9.2.2 _ _ _ hP hD hS (lv_sub hl [2, 3, 4, 5, 6] rfl)
    · refine lv_aload_n hx hb d_law_685 rfl (lv_at hl 5 rfl) ?_
      refine lv_iconst (v := 0) hx hb d_law_686 (by decide) ?_
      refine ct_lald hx hb hK hP 0 0 rfl rfl 0 rfl (by omega) (by omega) d_law_687 ?_
      refine lv_iload hx hb d_law_688 (lv_at hl 0 rfl) ?_
      refine lv_i2l hx hb d_law_690 rfl ?_
      refine ct_jeq (tgt := 697) hx hb d_law_691 d_law_692 (by decide) (fun hy => ?_) (fun hy => ?_)
      · refine lv_goto (tgt := 995) hx hb d_law_697 (by decide) ?_
        refine W.widen (k := cells + 4) (n := slots + 24) (by omega) (by omega) ?_
        exact K o1 t2 n2 f cc2 P9 V9 g p9 tc1 T u hK9.2.2 _ _ _ hP hD hS (lv_sub hl [2, 3, 4, 5, 6] rfl)
      · exact absurd (hK9.2.1 hz) hy
  · exact absurd h3 hq
set_option maxHeartbeats 4000000 in
set_option maxRecDepth 100000 in
/-- the law's case of row -/
theorem ca_row {p : Program} {l : Launch} {e : Env} {s : State} {m : MethodId} {below : List Frame} {meth : Method} {c : Code} {dC : Nat → ClassId} {dI : Nat → Nat → Nat} {b L : Nat} {xs : Nat → Int32} {ot mx : Nat} {sd : Int64} {ro pl vl pa pr : Nat} {cL cI cT : ClassId} {fx tb : Nat} {ad tt : Nat → Nat} {s1 s2 s3 s4 tl th9 ta : Nat} {cells slots : Nat} (hL : L ≤ 2049) (C0 : lw_At p s m meth c b L xs) (hst : l.stackTraces = false) (hG : lg_G s1 s2 s3 s4 tl th9 ta (fun q : Nat => s.heap.size ≤ q) s s.heap) (hK : va_K (dC, dI) cl9 [(cL, .long), (cT, .object "HouseFunctions$Table"), (cI, .int)] s) {i : Nat} (hi : i + 3 < L) (hc9 : cells + 4 ≤ 601024) (hs9 : slots + 24 ≤ 7293000)
    (K : ∀ (o : Nat → Int64) (tw : Int32) (n : Nat) (f : Nat) (cc : Nat → Nat) (P9 : Nat → Int32) (V9 : Nat → Int32) (g : Nat → Int64) (p9 : Nat → Int64) (tc : Nat) (T : fq_T) (u : rk_U), lw_J n f cc P9 V9 tc T → ∀ (H : Heap) (locs : List Loc) (ls : Array Slot), va_P (dC, dI) cl9 (lw_ws ot o mx tw sd n ro pl vl f pa pr cL cI cT cc P9 V9 g p9 fx tb ad tt tc T u) H → va_D (fun q : Nat => s.heap.size ≤ q) (lw_ws ot o mx tw sd n ro pl vl f pa pr cL cI cT cc P9 V9 g p9 fx tb ad tt tc T u) → va_S (fun q : Nat => s.heap.size ≤ q) s.heap H locs → lv_has ls 8 [(0, .ref b), (1, .ref fx), (2, .ref mx), (3, .ref ot), (4, .int (nI i))] → W p l e room_1 s m #[Value.ref b] below meth c H locs (cells + 4) (slots + 24) (lw_Z below #[Value.ref b] s) (F0 m 995 ls [])) :
    ∀ (o : Nat → Int64) (tw : Int32) (n : Nat) (f : Nat) (cc : Nat → Nat) (P9 : Nat → Int32) (V9 : Nat → Int32) (g : Nat → Int64) (p9 : Nat → Int64) (tc : Nat) (T : fq_T) (u : rk_U), lw_J n f cc P9 V9 tc T → ∀ (H : Heap) (locs : List Loc) (ls : Array Slot), va_P (dC, dI) cl9 (lw_ws ot o mx tw sd n ro pl vl f pa pr cL cI cT cc P9 V9 g p9 fx tb ad tt tc T u) H → va_D (fun q : Nat => s.heap.size ≤ q) (lw_ws ot o mx tw sd n ro pl vl f pa pr cL cI cT cc P9 V9 g p9 fx tb ad tt tc T u) → va_S (fun q : Nat => s.heap.size ≤ q) s.heap H locs → lv_has ls 8 [(0, .ref b), (1, .ref fx), (2, .ref mx), (3, .ref ot), (4, .int (nI i))] → W p l e room_1 s m #[Value.ref b] below meth c H locs cells slots (lw_Z below #[Value.ref b] s) (F0 m 700 ls []) := by
  obtain ⟨hx, hb, hr, hml, hown, hts, hX, hbl, hlocks, hgv⟩ := C0
  have hA : ∀ q : Nat, s.heap.size ≤ q → (fun q : Nat => s.heap.size ≤ q) q := fun _ h => h
  have hbA : ¬ (fun q : Nat => s.heap.size ≤ q) b := Nat.not_le.mpr hbl
  have ha : ∀ w ∈ al_L, w.before #[Value.ref b] s = true := fun w h => hts w (am_L w h)
  intro o tw n f cc P9 V9 g p9 tc T u hJ H locs ls hP hD hS hl
  refine lv_aload_n hx hb d_law_700 rfl (lv_at hl 1 rfl) ?_
  refine lv_aload_n hx hb d_law_701 rfl (lv_at hl 0 rfl) ?_
  refine lv_iload hx hb d_law_702 (lv_at hl 4 rfl) ?_
  refine lv_iconst (v := 1) hx hb d_law_704 (by decide) ?_
  refine lv_iadd hx hb d_law_705 ?_
  refine lv_topi (fun x_1 ex_1 => ?_)
  obtain rfl : x_1 = nI (i + 1) := ex_1.trans (nI_add i 1)
  refine va_sld hx hb hX hbl hbA hS (vp_in_nI (show i + 1 < L by omega) (by omega)) d_law_706 ?_
  refine lv_topi (fun y_2 ey_2 => ?_)
  obtain rfl : y_2 = xs (i + 1) := ey_2.trans (congrArg xs (nI_clamp (by omega)))
  refine lv_aload_n hx hb d_law_707 rfl (lv_at hl 0 rfl) ?_
  refine lv_iload hx hb d_law_708 (lv_at hl 4 rfl) ?_
  refine lv_iconst (v := 2) hx hb d_law_710 (by decide) ?_
  refine lv_iadd hx hb d_law_711 ?_
  refine lv_topi (fun x_3 ex_3 => ?_)
  obtain rfl : x_3 = nI (i + 2) := ex_3.trans (nI_add i 2)
  refine va_sld hx hb hX hbl hbA hS (vp_in_nI (show i + 2 < L by omega) (by omega)) d_law_712 ?_
  refine lv_topi (fun y_4 ey_4 => ?_)
  obtain rfl : y_4 = xs (i + 2) := ey_4.trans (congrArg xs (nI_clamp (by omega)))
  refine lv_aload_n hx hb d_law_713 rfl (lv_at hl 0 rfl) ?_
  refine lv_iload hx hb d_law_714 (lv_at hl 4 rfl) ?_
  refine lv_iconst (v := 3) hx hb d_law_716 (by decide) ?_
  refine lv_iadd hx hb d_law_717 ?_
  refine lv_topi (fun x_5 ex_5 => ?_)
  obtain rfl : x_5 = nI (i + 3) := ex_5.trans (nI_add i 3)
  refine va_sld hx hb hX hbl hbA hS (vp_in_nI (show i + 3 < L by omega) (by omega)) d_law_718 ?_
  refine lv_topi (fun y_6 ey_6 => ?_)
  obtain rfl : y_6 = xs (i + 3) := ey_6.trans (congrArg xs (nI_clamp (by omega)))
  refine lv_aload_n hx hb d_law_719 rfl (lv_at hl 3 rfl) ?_
  refine cs_calli (vx_runSW (As := [.ref fx, .int (xs (i + 1)), .int (xs (i + 2)), .int (xs (i + 3)), .ref ot]) (rest := []) ⟨hx, hb, hml, hown, hts⟩ (c_L_row l hst dC dI ot o fx sd tb tc (ad 0) hJ.2.2.1 cL cT cI tt T s1 s2 s3 s4 tl th9 ta hJ.2.2.2.1 (xs (i + 1)) (xs (i + 2)) (xs (i + 3)) _) (vx_cwSW 5 hts g_law_L_row rfl rfl rfl (by decide +kernel) ⟨Nat.le_of_ble_eq_true rfl, Nat.le_of_ble_eq_true rfl⟩) (ct_pre (lg_Gok s1 s2 s3 s4 tl th9 ta) hG hK hP hD hS hA [0, 7, 8, 9, 10, 11, 12, 13, 14, 15, 16, 17, 18, 19, 20, 21, 22, 23, 24, 25, 26] rfl (by decide) [0, 1, 2] rfl) rfl rfl hl.1 rfl (lv_room (Nat.le_of_ble_eq_true rfl)) d_law_720 ⟨show _ ≤ 601024 by omega, show _ ≤ 7293000 by omega⟩) hP hD hS hA [0, 7, 8, 9, 10, 11, 12, 13, 14, 15, 16, 17, 18, 19, 20, 21, 22, 23, 24, 25, 26] rfl (by decide) (fun _ => rfl) (fun r1 w1 H locs hr1 hP hD hS => ?_)
  obtain ⟨o1, T1⟩ := w1
  obtain ⟨hP, hD⟩ : va_P (dC, dI) cl9 (lw_ws ot o1 mx tw sd n ro pl vl f pa pr cL cI cT cc P9 V9 g p9 fx tb ad tt tc T1 u) H ∧ va_D (fun q : Nat => s.heap.size ≤ q) (lw_ws ot o1 mx tw sd n ro pl vl f pa pr cL cI cT cc P9 V9 g p9 fx tb ad tt tc T1 u) := ct_eqP (lwsB ot o o1 mx tw sd n ro pl vl f pa pr cL cI cT cc P9 V9 g p9 fx tb ad tt tc T T1 u) hP hD
  refine lv_istore (lv' := [(5, .int r1), (0, .ref b), (1, .ref fx), (2, .ref mx), (3, .ref ot), (4, .int (nI i))]) hx hb d_law_723 hl (by decide) rfl (fun ls hl => ?_)
  refine lv_aload_n hx hb d_law_725 rfl (lv_at hl 3 rfl) ?_
  refine lv_aload_n hx hb d_law_726 rfl (lv_at hl 1 rfl) ?_
  refine lv_iload hx hb d_law_727 (lv_at hl 5 rfl) ?_
  refine lv_iconst (v := 1) hx hb d_law_729 (by decide) ?_
  refine lv_iadd hx hb d_law_730 ?_
  refine lv_topi (fun x_7 ex_7 => ?_)
  obtain rfl : x_7 = nI (i + 1) := ex_7.trans (nI_add i 1)
  refine va_sld hx hb hX hbl hbA hS (vp_in_nI (show i + 1 < L by omega) (by omega)) d_law_731 ?_
  refine lv_topi (fun y_8 ey_8 => ?_)
  obtain rfl : y_8 = xs (i + 1) := ey_8.trans (congrArg xs (nI_clamp (by omega)))
  refine lv_aload_n hx hb d_law_732 rfl (lv_at hl 1 rfl) ?_
  refine lv_iload hx hb d_law_733 (lv_at hl 5 rfl) ?_
  refine lv_iconst (v := 2) hx hb d_law_735 (by decide) ?_
  refine lv_iadd hx hb d_law_736 ?_
  refine lv_topi (fun x_9 ex_9 => ?_)
  obtain rfl : x_9 = nI (i + 2) := ex_9.trans (nI_add i 2)
  refine va_sld hx hb hX hbl hbA hS (vp_in_nI (show i + 2 < L by omega) (by omega)) d_law_737 ?_
  refine lv_topi (fun y_10 ey_10 => ?_)
  obtain rfl : y_10 = xs (i + 2) := ey_10.trans (congrArg xs (nI_clamp (by omega)))
  refine lv_aload_n hx hb d_law_738 rfl (lv_at hl 1 rfl) ?_
  refine lv_iload hx hb d_law_739 (lv_at hl 5 rfl) ?_
  refine lv_iconst (v := 3) hx hb d_law_741 (by decide) ?_
  refine lv_iadd hx hb d_law_742 ?_
  refine lv_topi (fun x_11 ex_11 => ?_)
  obtain rfl : x_11 = nI (i + 3) := ex_11.trans (nI_add i 3)
  refine va_sld hx hb hX hbl hbA hS (vp_in_nI (show i + 3 < L by omega) (by omega)) d_law_743 ?_
  refine lv_topi (fun y_12 ey_12 => ?_)
  obtain rfl : y_12 = xs (i + 3) := ey_12.trans (congrArg xs (nI_clamp (by omega)))
  refine cs_calli (va_runV (As := [.int (xs (i + 1)), .int (xs (i + 2)), .int (xs (i + 3))]) (rest := []) ⟨hx, hb, hml, hown, hts⟩ (c_M_row l dC dI mx tw sd n ro pl vl f pa pr cI cc P9 V9 (xs (i + 1)) (xs (i + 2)) (xs (i + 3)) (J_cc hJ).1 (J_cc hJ).2.1 _) (cwV 3 hts g_law_M_row rfl rfl rfl (by decide +kernel) ⟨Nat.le_of_ble_eq_true rfl, Nat.le_of_ble_eq_true rfl⟩) (ct_preV ct_G0ok trivial hK hP hD hS hA [1, 2, 3, 4] rfl (by decide) [2] rfl 1 4 rfl rfl rfl) rfl rfl hl.1 rfl (lv_room (Nat.le_of_ble_eq_true rfl)) d_law_744 ⟨show _ ≤ 601024 by omega, show _ ≤ 7293000 by omega⟩) hP hD hS hA [1, 2, 3, 4] rfl (by decide) (fun _ => rfl) (fun v2 w2 H locs hv2 hP hD hS => ?_)
  have hK9 := rw_step hJ hr1 hv2
  obtain ⟨t2, cc2, P2, V2⟩ := w2
  obtain ⟨hP, hD⟩ : va_P (dC, dI) cl9 (lw_ws ot o1 mx t2 sd n ro pl vl f pa pr cL cI cT cc2 P2 V2 g p9 fx tb ad tt tc T1 u) H ∧ va_D (fun q : Nat => s.heap.size ≤ q) (lw_ws ot o1 mx t2 sd n ro pl vl f pa pr cL cI cT cc2 P2 V2 g p9 fx tb ad tt tc T1 u) := ct_eqP (lwsE ot o1 mx tw t2 sd n ro pl vl f pa pr cL cI cT cc cc2 P9 V9 P2 V2 g p9 fx tb ad tt tc T1 u) hP hD
  refine lv_istore (lv' := [(6, .int v2), (5, .int r1), (0, .ref b), (1, .ref fx), (2, .ref mx), (3, .ref ot), (4, .int (nI i))]) hx hb d_law_747 hl (by decide) rfl (fun ls hl => ?_)
  refine lv_aload_n hx hb d_law_749 rfl (lv_at hl 4 rfl) ?_
  refine cs_calli (va_runV (As := []) (rest := []) ⟨hx, hb, hml, hown, hts⟩ (c_M_thrown l dC dI mx t2 sd (nI n) ro pl vl f pa pr _) (cwV 0 hts g_law_M_thrown rfl rfl rfl (by decide +kernel) ⟨Nat.le_of_ble_eq_true rfl, Nat.le_of_ble_eq_true rfl⟩) (ct_preV ct_G0ok trivial hK hP hD hS hA [1] rfl (by decide) [] rfl 1 4 rfl rfl rfl) rfl rfl hl.1 rfl (lv_room (Nat.le_of_ble_eq_true rfl)) d_law_750 ⟨show _ ≤ 601024 by omega, show _ ≤ 7293000 by omega⟩) hP hD hS hA [1] rfl (by decide) (fun _ => rfl) (fun r3 w3 H locs hr3 hP hD hS => ?_)
  obtain ⟨hP, hD⟩ : va_P (dC, dI) cl9 (lw_ws ot o1 mx t2 sd n ro pl vl f pa pr cL cI cT cc2 P2 V2 g p9 fx tb ad tt tc T1 u) H ∧ va_D (fun q : Nat => s.heap.size ≤ q) (lw_ws ot o1 mx t2 sd n ro pl vl f pa pr cL cI cT cc2 P2 V2 g p9 fx tb ad tt tc T1 u) := ct_eqP (lwsG ot o1 mx t2 t2 sd n ro pl vl f pa pr cL cI cT cc2 P2 V2 g p9 fx tb ad tt tc T1 u) hP hD
  refine lv_iload hx hb d_law_753 (lv_at hl 1 rfl) ?_
  have h3 : r3 = r1 := (show r3 = t2 from hr3).trans hK9.1.symm
  refine lv_icmp_eq (tgt := 760) hx hb d_law_755 (by decide) (fun hq => ?_) (fun hq => ?_)
  · refine lv_iload hx hb d_law_760 (lv_at hl 1 rfl) ?_
    refine lv_if_ne (tgt := 777) hx hb d_law_762 (by decide) (fun hz => ?_) (fun hz => ?_)
    · refine lv_goto (tgt := 995) hx hb d_law_777 (by decide) ?_
      refine W.widen (k := cells + 4) (n := slots + 24) (by omega) (by omega) ?_
      exact K o1 t2 n f cc2 P2 V2 g p9 tc T1 u hK9.2.2 _ _ _ hP hD hS (lv_sub hl [2, 3, 4, 5, 6] rfl)
    · refine lv_aload_n hx hb d_law_765 rfl (lv_at hl 5 rfl) ?_
      refine lv_iconst (v := 0) hx hb d_law_766 (by decide) ?_
      refine ct_lald hx hb hK hP 0 0 rfl rfl 0 rfl (by omega) (by omega) d_law_767 ?_
      refine lv_iload hx hb d_law_768 (lv_at hl 0 rfl) ?_
      refine lv_i2l hx hb d_law_770 rfl ?_
      refine ct_jeq (tgt := 777) hx hb d_law_771 d_law_772 (by decide) (fun hy => ?_) (fun hy => ?_)
      · refine lv_goto (tgt := 995) hx hb d_law_777 (by decide) ?_
        refine W.widen (k := cells + 4) (n := slots + 24) (by omega) (by omega) ?_
        exact K o1 t2 n f cc2 P2 V2 g p9 tc T1 u hK9.2.2 _ _ _ hP hD hS (lv_sub hl [2, 3, 4, 5, 6] rfl)
      · exact absurd (hK9.2.1 hz) hy
  · exact absurd h3 hq
set_option maxHeartbeats 4000000 in
set_option maxRecDepth 100000 in
/-- the law's case of at -/
theorem ca_at {p : Program} {l : Launch} {e : Env} {s : State} {m : MethodId} {below : List Frame} {meth : Method} {c : Code} {dC : Nat → ClassId} {dI : Nat → Nat → Nat} {b L : Nat} {xs : Nat → Int32} {ot mx : Nat} {sd : Int64} {ro pl vl pa pr : Nat} {cL cI cT : ClassId} {fx tb : Nat} {ad tt : Nat → Nat} {s1 s2 s3 s4 tl th9 ta : Nat} {cells slots : Nat} (hL : L ≤ 2049) (C0 : lw_At p s m meth c b L xs) (hst : l.stackTraces = false) (hG : lg_G s1 s2 s3 s4 tl th9 ta (fun q : Nat => s.heap.size ≤ q) s s.heap) (hK : va_K (dC, dI) cl9 [(cL, .long), (cT, .object "HouseFunctions$Table"), (cI, .int)] s) {i : Nat} (hi : i + 3 < L) (hc9 : cells + 4 ≤ 601024) (hs9 : slots + 24 ≤ 7293000)
    (K : ∀ (o : Nat → Int64) (tw : Int32) (n : Nat) (f : Nat) (cc : Nat → Nat) (P9 : Nat → Int32) (V9 : Nat → Int32) (g : Nat → Int64) (p9 : Nat → Int64) (tc : Nat) (T : fq_T) (u : rk_U), lw_J n f cc P9 V9 tc T → ∀ (H : Heap) (locs : List Loc) (ls : Array Slot), va_P (dC, dI) cl9 (lw_ws ot o mx tw sd n ro pl vl f pa pr cL cI cT cc P9 V9 g p9 fx tb ad tt tc T u) H → va_D (fun q : Nat => s.heap.size ≤ q) (lw_ws ot o mx tw sd n ro pl vl f pa pr cL cI cT cc P9 V9 g p9 fx tb ad tt tc T u) → va_S (fun q : Nat => s.heap.size ≤ q) s.heap H locs → lv_has ls 8 [(0, .ref b), (1, .ref fx), (2, .ref mx), (3, .ref ot), (4, .int (nI i))] → W p l e room_1 s m #[Value.ref b] below meth c H locs (cells + 4) (slots + 24) (lw_Z below #[Value.ref b] s) (F0 m 995 ls [])) :
    ∀ (o : Nat → Int64) (tw : Int32) (n : Nat) (f : Nat) (cc : Nat → Nat) (P9 : Nat → Int32) (V9 : Nat → Int32) (g : Nat → Int64) (p9 : Nat → Int64) (tc : Nat) (T : fq_T) (u : rk_U), lw_J n f cc P9 V9 tc T → ∀ (H : Heap) (locs : List Loc) (ls : Array Slot), va_P (dC, dI) cl9 (lw_ws ot o mx tw sd n ro pl vl f pa pr cL cI cT cc P9 V9 g p9 fx tb ad tt tc T u) H → va_D (fun q : Nat => s.heap.size ≤ q) (lw_ws ot o mx tw sd n ro pl vl f pa pr cL cI cT cc P9 V9 g p9 fx tb ad tt tc T u) → va_S (fun q : Nat => s.heap.size ≤ q) s.heap H locs → lv_has ls 8 [(0, .ref b), (1, .ref fx), (2, .ref mx), (3, .ref ot), (4, .int (nI i))] → W p l e room_1 s m #[Value.ref b] below meth c H locs cells slots (lw_Z below #[Value.ref b] s) (F0 m 780 ls []) := by
  obtain ⟨hx, hb, hr, hml, hown, hts, hX, hbl, hlocks, hgv⟩ := C0
  have hA : ∀ q : Nat, s.heap.size ≤ q → (fun q : Nat => s.heap.size ≤ q) q := fun _ h => h
  have hbA : ¬ (fun q : Nat => s.heap.size ≤ q) b := Nat.not_le.mpr hbl
  have ha : ∀ w ∈ al_L, w.before #[Value.ref b] s = true := fun w h => hts w (am_L w h)
  intro o tw n f cc P9 V9 g p9 tc T u hJ H locs ls hP hD hS hl
  refine lv_aload_n hx hb d_law_780 rfl (lv_at hl 1 rfl) ?_
  refine lv_aload_n hx hb d_law_781 rfl (lv_at hl 0 rfl) ?_
  refine lv_iload hx hb d_law_782 (lv_at hl 4 rfl) ?_
  refine lv_iconst (v := 1) hx hb d_law_784 (by decide) ?_
  refine lv_iadd hx hb d_law_785 ?_
  refine lv_topi (fun x_1 ex_1 => ?_)
  obtain rfl : x_1 = nI (i + 1) := ex_1.trans (nI_add i 1)
  refine va_sld hx hb hX hbl hbA hS (vp_in_nI (show i + 1 < L by omega) (by omega)) d_law_786 ?_
  refine lv_topi (fun y_2 ey_2 => ?_)
  obtain rfl : y_2 = xs (i + 1) := ey_2.trans (congrArg xs (nI_clamp (by omega)))
  refine lv_aload_n hx hb d_law_787 rfl (lv_at hl 0 rfl) ?_
  refine lv_iload hx hb d_law_788 (lv_at hl 4 rfl) ?_
  refine lv_iconst (v := 2) hx hb d_law_790 (by decide) ?_
  refine lv_iadd hx hb d_law_791 ?_
  refine lv_topi (fun x_3 ex_3 => ?_)
  obtain rfl : x_3 = nI (i + 2) := ex_3.trans (nI_add i 2)
  refine va_sld hx hb hX hbl hbA hS (vp_in_nI (show i + 2 < L by omega) (by omega)) d_law_792 ?_
  refine lv_topi (fun y_4 ey_4 => ?_)
  obtain rfl : y_4 = xs (i + 2) := ey_4.trans (congrArg xs (nI_clamp (by omega)))
  refine lv_aload_n hx hb d_law_793 rfl (lv_at hl 3 rfl) ?_
  refine cs_calli (vx_runSW (As := [.ref fx, .int (xs (i + 1)), .int (xs (i + 2)), .ref ot]) (rest := []) ⟨hx, hb, hml, hown, hts⟩ (c_L_at l hst dC dI ot o fx sd tb tc (ad 0) hJ.2.2.1 cL cT cI tt T s1 s2 s3 s4 tl th9 ta hJ.2.2.2.1 (xs (i + 1)) (xs (i + 2)) _) (vx_cwSW 4 hts g_law_L_at rfl rfl rfl (by decide +kernel) ⟨Nat.le_of_ble_eq_true rfl, Nat.le_of_ble_eq_true rfl⟩) (ct_pre (lg_Gok s1 s2 s3 s4 tl th9 ta) hG hK hP hD hS hA [0, 7, 8, 9, 10, 11, 12, 13, 14, 15, 16, 17, 18, 19, 20, 21, 22, 23, 24, 25, 26] rfl (by decide) [0, 1, 2] rfl) rfl rfl hl.1 rfl (lv_room (Nat.le_of_ble_eq_true rfl)) d_law_794 ⟨show _ ≤ 601024 by omega, show _ ≤ 7293000 by omega⟩) hP hD hS hA [0, 7, 8, 9, 10, 11, 12, 13, 14, 15, 16, 17, 18, 19, 20, 21, 22, 23, 24, 25, 26] rfl (by decide) (fun _ => rfl) (fun r1 o1 H locs hr1 hP hD hS => ?_)
  obtain ⟨hP, hD⟩ : va_P (dC, dI) cl9 (lw_ws ot o1 mx tw sd n ro pl vl f pa pr cL cI cT cc P9 V9 g p9 fx tb ad tt tc T u) H ∧ va_D (fun q : Nat => s.heap.size ≤ q) (lw_ws ot o1 mx tw sd n ro pl vl f pa pr cL cI cT cc P9 V9 g p9 fx tb ad tt tc T u) := ct_eqP (lwsB ot o o1 mx tw sd n ro pl vl f pa pr cL cI cT cc P9 V9 g p9 fx tb ad tt tc T T u) hP hD
  refine lv_istore (lv' := [(5, .int r1), (0, .ref b), (1, .ref fx), (2, .ref mx), (3, .ref ot), (4, .int (nI i))]) hx hb d_law_797 hl (by decide) rfl (fun ls hl => ?_)
  refine lv_aload_n hx hb d_law_799 rfl (lv_at hl 3 rfl) ?_
  refine lv_aload_n hx hb d_law_800 rfl (lv_at hl 1 rfl) ?_
  refine lv_iload hx hb d_law_801 (lv_at hl 5 rfl) ?_
  refine lv_iconst (v := 1) hx hb d_law_803 (by decide) ?_
  refine lv_iadd hx hb d_law_804 ?_
  refine lv_topi (fun x_5 ex_5 => ?_)
  obtain rfl : x_5 = nI (i + 1) := ex_5.trans (nI_add i 1)
  refine va_sld hx hb hX hbl hbA hS (vp_in_nI (show i + 1 < L by omega) (by omega)) d_law_805 ?_
  refine lv_topi (fun y_6 ey_6 => ?_)
  obtain rfl : y_6 = xs (i + 1) := ey_6.trans (congrArg xs (nI_clamp (by omega)))
  refine lv_aload_n hx hb d_law_806 rfl (lv_at hl 1 rfl) ?_
  refine lv_iload hx hb d_law_807 (lv_at hl 5 rfl) ?_
  refine lv_iconst (v := 2) hx hb d_law_809 (by decide) ?_
  refine lv_iadd hx hb d_law_810 ?_
  refine lv_topi (fun x_7 ex_7 => ?_)
  obtain rfl : x_7 = nI (i + 2) := ex_7.trans (nI_add i 2)
  refine va_sld hx hb hX hbl hbA hS (vp_in_nI (show i + 2 < L by omega) (by omega)) d_law_811 ?_
  refine lv_topi (fun y_8 ey_8 => ?_)
  obtain rfl : y_8 = xs (i + 2) := ey_8.trans (congrArg xs (nI_clamp (by omega)))
  refine cs_calll (va_runV (As := [.int (xs (i + 1)), .int (xs (i + 2))]) (rest := []) ⟨hx, hb, hml, hown, hts⟩ (c_M_at l dC dI mx tw sd n ro pl vl f pa pr cI cc P9 V9 (xs (i + 1)) (xs (i + 2)) (J_cc hJ).1 (J_cc hJ).2.1 (J_cc hJ).2.2 _) (cwV 2 hts g_law_M_at rfl rfl rfl (by decide +kernel) ⟨Nat.le_of_ble_eq_true rfl, Nat.le_of_ble_eq_true rfl⟩) (ct_preV ct_G0ok trivial hK hP hD hS hA [1, 2, 3, 4] rfl (by decide) [2] rfl 1 4 rfl rfl rfl) rfl rfl hl.1 rfl (lv_room (Nat.le_of_ble_eq_true rfl)) d_law_812 ⟨show _ ≤ 601024 by omega, show _ ≤ 7293000 by omega⟩) hP hD hS hA [1, 2, 3, 4] rfl (by decide) (fun _ => rfl) (fun v2 t2 H locs hv2 hP hD hS => ?_)
  have hK9 := at_step hJ hr1 hv2
  obtain ⟨hP, hD⟩ : va_P (dC, dI) cl9 (lw_ws ot o1 mx t2 sd n ro pl vl f pa pr cL cI cT cc P9 V9 g p9 fx tb ad tt tc T u) H ∧ va_D (fun q : Nat => s.heap.size ≤ q) (lw_ws ot o1 mx t2 sd n ro pl vl f pa pr cL cI cT cc P9 V9 g p9 fx tb ad tt tc T u) := ct_eqP (lwsE ot o1 mx tw t2 sd n ro pl vl f pa pr cL cI cT cc cc P9 V9 P9 V9 g p9 fx tb ad tt tc T u) hP hD
  refine lv_lstore (lv' := [(6, .long v2), (5, .int r1), (0, .ref b), (1, .ref fx), (2, .ref mx), (3, .ref ot), (4, .int (nI i))]) hx hb d_law_815 hl (by decide) rfl (fun ls hl => ?_)
  refine lv_aload_n hx hb d_law_817 rfl (lv_at hl 4 rfl) ?_
  refine cs_calli (va_runV (As := []) (rest := []) ⟨hx, hb, hml, hown, hts⟩ (c_M_thrown l dC dI mx t2 sd (nI n) ro pl vl f pa pr _) (cwV 0 hts g_law_M_thrown rfl rfl rfl (by decide +kernel) ⟨Nat.le_of_ble_eq_true rfl, Nat.le_of_ble_eq_true rfl⟩) (ct_preV ct_G0ok trivial hK hP hD hS hA [1] rfl (by decide) [] rfl 1 4 rfl rfl rfl) rfl rfl hl.1 rfl (lv_room (Nat.le_of_ble_eq_true rfl)) d_law_818 ⟨show _ ≤ 601024 by omega, show _ ≤ 7293000 by omega⟩) hP hD hS hA [1] rfl (by decide) (fun _ => rfl) (fun r3 w3 H locs hr3 hP hD hS => ?_)
  obtain ⟨hP, hD⟩ : va_P (dC, dI) cl9 (lw_ws ot o1 mx t2 sd n ro pl vl f pa pr cL cI cT cc P9 V9 g p9 fx tb ad tt tc T u) H ∧ va_D (fun q : Nat => s.heap.size ≤ q) (lw_ws ot o1 mx t2 sd n ro pl vl f pa pr cL cI cT cc P9 V9 g p9 fx tb ad tt tc T u) := ct_eqP (lwsG ot o1 mx t2 t2 sd n ro pl vl f pa pr cL cI cT cc P9 V9 g p9 fx tb ad tt tc T u) hP hD
  refine lv_iload hx hb d_law_821 (lv_at hl 1 rfl) ?_
  have hK9 : r1 = t2 ∧ (r1 = 0 → o1 0 = v2) ∧ True := ⟨hK9.1, hK9.2, trivial⟩
  have h3 : r3 = r1 := (show r3 = t2 from hr3).trans hK9.1.symm
  refine lv_icmp_eq (tgt := 828) hx hb d_law_823 (by decide) (fun hq => ?_) (fun hq => ?_)
  · refine lv_iload hx hb d_law_828 (lv_at hl 1 rfl) ?_
    refine lv_if_ne (tgt := 844) hx hb d_law_830 (by decide) (fun hz => ?_) (fun hz => ?_)
    · refine lv_goto (tgt := 995) hx hb d_law_844 (by decide) ?_
      refine W.widen (k := cells + 4) (n := slots + 24) (by omega) (by omega) ?_
      exact K o1 t2 n f cc P9 V9 g p9 tc T u hJ _ _ _ hP hD hS (lv_sub hl [2, 3, 4, 5, 6] rfl)
    · refine lv_aload_n hx hb d_law_833 rfl (lv_at hl 5 rfl) ?_
      refine lv_iconst (v := 0) hx hb d_law_834 (by decide) ?_
      refine ct_lald hx hb hK hP 0 0 rfl rfl 0 rfl (by omega) (by omega) d_law_835 ?_
      refine lv_lload hx hb d_law_836 (lv_at hl 0 rfl) ?_
      refine ct_jeq (tgt := 844) hx hb d_law_838 d_law_839 (by decide) (fun hy => ?_) (fun hy => ?_)
      · refine lv_goto (tgt := 995) hx hb d_law_844 (by decide) ?_
        refine W.widen (k := cells + 4) (n := slots + 24) (by omega) (by omega) ?_
        exact K o1 t2 n f cc P9 V9 g p9 tc T u hJ _ _ _ hP hD hS (lv_sub hl [2, 3, 4, 5, 6] rfl)
      · exact absurd (hK9.2.1 hz) hy
  · exact absurd h3 hq
set_option maxHeartbeats 4000000 in
set_option maxRecDepth 100000 in
/-- the law's case of join -/
theorem ca_join {p : Program} {l : Launch} {e : Env} {s : State} {m : MethodId} {below : List Frame} {meth : Method} {c : Code} {dC : Nat → ClassId} {dI : Nat → Nat → Nat} {b L : Nat} {xs : Nat → Int32} {ot mx : Nat} {sd : Int64} {ro pl vl pa pr : Nat} {cL cI cT : ClassId} {fx tb : Nat} {ad tt : Nat → Nat} {s1 s2 s3 s4 tl th9 ta : Nat} {cells slots : Nat} (hL : L ≤ 2049) (C0 : lw_At p s m meth c b L xs) (hst : l.stackTraces = false) (hG : lg_G s1 s2 s3 s4 tl th9 ta (fun q : Nat => s.heap.size ≤ q) s s.heap) (hK : va_K (dC, dI) cl9 [(cL, .long), (cT, .object "HouseFunctions$Table"), (cI, .int)] s) {i : Nat} (hi : i + 3 < L) (hc9 : cells + 4 ≤ 601024) (hs9 : slots + 24 ≤ 7293000)
    (K : ∀ (o : Nat → Int64) (tw : Int32) (n : Nat) (f : Nat) (cc : Nat → Nat) (P9 : Nat → Int32) (V9 : Nat → Int32) (g : Nat → Int64) (p9 : Nat → Int64) (tc : Nat) (T : fq_T) (u : rk_U), lw_J n f cc P9 V9 tc T → ∀ (H : Heap) (locs : List Loc) (ls : Array Slot), va_P (dC, dI) cl9 (lw_ws ot o mx tw sd n ro pl vl f pa pr cL cI cT cc P9 V9 g p9 fx tb ad tt tc T u) H → va_D (fun q : Nat => s.heap.size ≤ q) (lw_ws ot o mx tw sd n ro pl vl f pa pr cL cI cT cc P9 V9 g p9 fx tb ad tt tc T u) → va_S (fun q : Nat => s.heap.size ≤ q) s.heap H locs → lv_has ls 8 [(0, .ref b), (1, .ref fx), (2, .ref mx), (3, .ref ot), (4, .int (nI i))] → W p l e room_1 s m #[Value.ref b] below meth c H locs (cells + 4) (slots + 24) (lw_Z below #[Value.ref b] s) (F0 m 995 ls [])) :
    ∀ (o : Nat → Int64) (tw : Int32) (n : Nat) (f : Nat) (cc : Nat → Nat) (P9 : Nat → Int32) (V9 : Nat → Int32) (g : Nat → Int64) (p9 : Nat → Int64) (tc : Nat) (T : fq_T) (u : rk_U), lw_J n f cc P9 V9 tc T → ∀ (H : Heap) (locs : List Loc) (ls : Array Slot), va_P (dC, dI) cl9 (lw_ws ot o mx tw sd n ro pl vl f pa pr cL cI cT cc P9 V9 g p9 fx tb ad tt tc T u) H → va_D (fun q : Nat => s.heap.size ≤ q) (lw_ws ot o mx tw sd n ro pl vl f pa pr cL cI cT cc P9 V9 g p9 fx tb ad tt tc T u) → va_S (fun q : Nat => s.heap.size ≤ q) s.heap H locs → lv_has ls 8 [(0, .ref b), (1, .ref fx), (2, .ref mx), (3, .ref ot), (4, .int (nI i))] → W p l e room_1 s m #[Value.ref b] below meth c H locs cells slots (lw_Z below #[Value.ref b] s) (F0 m 916 ls []) := by
  obtain ⟨hx, hb, hr, hml, hown, hts, hX, hbl, hlocks, hgv⟩ := C0
  have hA : ∀ q : Nat, s.heap.size ≤ q → (fun q : Nat => s.heap.size ≤ q) q := fun _ h => h
  have hbA : ¬ (fun q : Nat => s.heap.size ≤ q) b := Nat.not_le.mpr hbl
  have ha : ∀ w ∈ al_L, w.before #[Value.ref b] s = true := fun w h => hts w (am_L w h)
  intro o tw n f cc P9 V9 g p9 tc T u hJ H locs ls hP hD hS hl
  refine lv_aload_n hx hb d_law_916 rfl (lv_at hl 1 rfl) ?_
  refine lv_aload_n hx hb d_law_917 rfl (lv_at hl 0 rfl) ?_
  refine lv_iload hx hb d_law_918 (lv_at hl 4 rfl) ?_
  refine lv_iconst (v := 1) hx hb d_law_920 (by decide) ?_
  refine lv_iadd hx hb d_law_921 ?_
  refine lv_topi (fun x_1 ex_1 => ?_)
  obtain rfl : x_1 = nI (i + 1) := ex_1.trans (nI_add i 1)
  refine va_sld hx hb hX hbl hbA hS (vp_in_nI (show i + 1 < L by omega) (by omega)) d_law_922 ?_
  refine lv_topi (fun y_2 ey_2 => ?_)
  obtain rfl : y_2 = xs (i + 1) := ey_2.trans (congrArg xs (nI_clamp (by omega)))
  refine lv_aload_n hx hb d_law_923 rfl (lv_at hl 0 rfl) ?_
  refine lv_iload hx hb d_law_924 (lv_at hl 4 rfl) ?_
  refine lv_iconst (v := 2) hx hb d_law_926 (by decide) ?_
  refine lv_iadd hx hb d_law_927 ?_
  refine lv_topi (fun x_3 ex_3 => ?_)
  obtain rfl : x_3 = nI (i + 2) := ex_3.trans (nI_add i 2)
  refine va_sld hx hb hX hbl hbA hS (vp_in_nI (show i + 2 < L by omega) (by omega)) d_law_928 ?_
  refine lv_topi (fun y_4 ey_4 => ?_)
  obtain rfl : y_4 = xs (i + 2) := ey_4.trans (congrArg xs (nI_clamp (by omega)))
  refine lv_aload_n hx hb d_law_929 rfl (lv_at hl 0 rfl) ?_
  refine lv_iload hx hb d_law_930 (lv_at hl 4 rfl) ?_
  refine lv_iconst (v := 3) hx hb d_law_932 (by decide) ?_
  refine lv_iadd hx hb d_law_933 ?_
  refine lv_topi (fun x_5 ex_5 => ?_)
  obtain rfl : x_5 = nI (i + 3) := ex_5.trans (nI_add i 3)
  refine va_sld hx hb hX hbl hbA hS (vp_in_nI (show i + 3 < L by omega) (by omega)) d_law_934 ?_
  refine lv_topi (fun y_6 ey_6 => ?_)
  obtain rfl : y_6 = xs (i + 3) := ey_6.trans (congrArg xs (nI_clamp (by omega)))
  refine lv_aload_n hx hb d_law_935 rfl (lv_at hl 3 rfl) ?_
  refine cs_calli (vx_runSW (As := [.ref fx, .int (xs (i + 1)), .int (xs (i + 2)), .int (xs (i + 3)), .ref ot]) (rest := []) ⟨hx, hb, hml, hown, hts⟩ (c_L_join l hst dC dI ot o fx sd tb tc (ad 0) hJ.2.2.1 cL cT cI tt T s1 s2 s3 s4 tl th9 ta hJ.2.2.2.1 (xs (i + 1)) (xs (i + 2)) (xs (i + 3)) _) (vx_cwSW 5 hts g_law_L_join rfl rfl rfl (by decide +kernel) ⟨Nat.le_of_ble_eq_true rfl, Nat.le_of_ble_eq_true rfl⟩) (ct_pre (lg_Gok s1 s2 s3 s4 tl th9 ta) hG hK hP hD hS hA [0, 7, 8, 9, 10, 11, 12, 13, 14, 15, 16, 17, 18, 19, 20, 21, 22, 23, 24, 25, 26] rfl (by decide) [0, 1, 2] rfl) rfl rfl hl.1 rfl (lv_room (Nat.le_of_ble_eq_true rfl)) d_law_936 ⟨show _ ≤ 601024 by omega, show _ ≤ 7293000 by omega⟩) hP hD hS hA [0, 7, 8, 9, 10, 11, 12, 13, 14, 15, 16, 17, 18, 19, 20, 21, 22, 23, 24, 25, 26] rfl (by decide) (fun _ => rfl) (fun r1 o1 H locs hr1 hP hD hS => ?_)
  obtain ⟨hP, hD⟩ : va_P (dC, dI) cl9 (lw_ws ot o1 mx tw sd n ro pl vl f pa pr cL cI cT cc P9 V9 g p9 fx tb ad tt tc T u) H ∧ va_D (fun q : Nat => s.heap.size ≤ q) (lw_ws ot o1 mx tw sd n ro pl vl f pa pr cL cI cT cc P9 V9 g p9 fx tb ad tt tc T u) := ct_eqP (lwsB ot o o1 mx tw sd n ro pl vl f pa pr cL cI cT cc P9 V9 g p9 fx tb ad tt tc T T u) hP hD
  refine lv_istore (lv' := [(5, .int r1), (0, .ref b), (1, .ref fx), (2, .ref mx), (3, .ref ot), (4, .int (nI i))]) hx hb d_law_939 hl (by decide) rfl (fun ls hl => ?_)
  refine lv_aload_n hx hb d_law_941 rfl (lv_at hl 3 rfl) ?_
  refine lv_aload_n hx hb d_law_942 rfl (lv_at hl 1 rfl) ?_
  refine lv_iload hx hb d_law_943 (lv_at hl 5 rfl) ?_
  refine lv_iconst (v := 1) hx hb d_law_945 (by decide) ?_
  refine lv_iadd hx hb d_law_946 ?_
  refine lv_topi (fun x_7 ex_7 => ?_)
  obtain rfl : x_7 = nI (i + 1) := ex_7.trans (nI_add i 1)
  refine va_sld hx hb hX hbl hbA hS (vp_in_nI (show i + 1 < L by omega) (by omega)) d_law_947 ?_
  refine lv_topi (fun y_8 ey_8 => ?_)
  obtain rfl : y_8 = xs (i + 1) := ey_8.trans (congrArg xs (nI_clamp (by omega)))
  refine lv_aload_n hx hb d_law_948 rfl (lv_at hl 1 rfl) ?_
  refine lv_iload hx hb d_law_949 (lv_at hl 5 rfl) ?_
  refine lv_iconst (v := 2) hx hb d_law_951 (by decide) ?_
  refine lv_iadd hx hb d_law_952 ?_
  refine lv_topi (fun x_9 ex_9 => ?_)
  obtain rfl : x_9 = nI (i + 2) := ex_9.trans (nI_add i 2)
  refine va_sld hx hb hX hbl hbA hS (vp_in_nI (show i + 2 < L by omega) (by omega)) d_law_953 ?_
  refine lv_topi (fun y_10 ey_10 => ?_)
  obtain rfl : y_10 = xs (i + 2) := ey_10.trans (congrArg xs (nI_clamp (by omega)))
  refine lv_aload_n hx hb d_law_954 rfl (lv_at hl 1 rfl) ?_
  refine lv_iload hx hb d_law_955 (lv_at hl 5 rfl) ?_
  refine lv_iconst (v := 3) hx hb d_law_957 (by decide) ?_
  refine lv_iadd hx hb d_law_958 ?_
  refine lv_topi (fun x_11 ex_11 => ?_)
  obtain rfl : x_11 = nI (i + 3) := ex_11.trans (nI_add i 3)
  refine va_sld hx hb hX hbl hbA hS (vp_in_nI (show i + 3 < L by omega) (by omega)) d_law_959 ?_
  refine lv_topi (fun y_12 ey_12 => ?_)
  obtain rfl : y_12 = xs (i + 3) := ey_12.trans (congrArg xs (nI_clamp (by omega)))
  refine cs_calll (va_runV (As := [.int (xs (i + 1)), .int (xs (i + 2)), .int (xs (i + 3))]) (rest := []) ⟨hx, hb, hml, hown, hts⟩ (c_M_join l dC dI mx tw sd n ro pl vl f pa pr cI cc P9 V9 (xs (i + 1)) (xs (i + 2)) (xs (i + 3)) (J_cc hJ).1 (J_cc hJ).2.1 (J_cc hJ).2.2 _) (cwV 3 hts g_law_M_join rfl rfl rfl (by decide +kernel) ⟨Nat.le_of_ble_eq_true rfl, Nat.le_of_ble_eq_true rfl⟩) (ct_preV ct_G0ok trivial hK hP hD hS hA [1, 2, 3, 4] rfl (by decide) [2] rfl 1 4 rfl rfl rfl) rfl rfl hl.1 rfl (lv_room (Nat.le_of_ble_eq_true rfl)) d_law_960 ⟨show _ ≤ 601024 by omega, show _ ≤ 7293000 by omega⟩) hP hD hS hA [1, 2, 3, 4] rfl (by decide) (fun _ => rfl) (fun v2 t2 H locs hv2 hP hD hS => ?_)
  have hK9 := jn_step hJ hr1 hv2
  obtain ⟨hP, hD⟩ : va_P (dC, dI) cl9 (lw_ws ot o1 mx t2 sd n ro pl vl f pa pr cL cI cT cc P9 V9 g p9 fx tb ad tt tc T u) H ∧ va_D (fun q : Nat => s.heap.size ≤ q) (lw_ws ot o1 mx t2 sd n ro pl vl f pa pr cL cI cT cc P9 V9 g p9 fx tb ad tt tc T u) := ct_eqP (lwsE ot o1 mx tw t2 sd n ro pl vl f pa pr cL cI cT cc cc P9 V9 P9 V9 g p9 fx tb ad tt tc T u) hP hD
  refine lv_lstore (lv' := [(6, .long v2), (5, .int r1), (0, .ref b), (1, .ref fx), (2, .ref mx), (3, .ref ot), (4, .int (nI i))]) hx hb d_law_963 hl (by decide) rfl (fun ls hl => ?_)
  refine lv_aload_n hx hb d_law_965 rfl (lv_at hl 4 rfl) ?_
  refine cs_calli (va_runV (As := []) (rest := []) ⟨hx, hb, hml, hown, hts⟩ (c_M_thrown l dC dI mx t2 sd (nI n) ro pl vl f pa pr _) (cwV 0 hts g_law_M_thrown rfl rfl rfl (by decide +kernel) ⟨Nat.le_of_ble_eq_true rfl, Nat.le_of_ble_eq_true rfl⟩) (ct_preV ct_G0ok trivial hK hP hD hS hA [1] rfl (by decide) [] rfl 1 4 rfl rfl rfl) rfl rfl hl.1 rfl (lv_room (Nat.le_of_ble_eq_true rfl)) d_law_966 ⟨show _ ≤ 601024 by omega, show _ ≤ 7293000 by omega⟩) hP hD hS hA [1] rfl (by decide) (fun _ => rfl) (fun r3 w3 H locs hr3 hP hD hS => ?_)
  obtain ⟨hP, hD⟩ : va_P (dC, dI) cl9 (lw_ws ot o1 mx t2 sd n ro pl vl f pa pr cL cI cT cc P9 V9 g p9 fx tb ad tt tc T u) H ∧ va_D (fun q : Nat => s.heap.size ≤ q) (lw_ws ot o1 mx t2 sd n ro pl vl f pa pr cL cI cT cc P9 V9 g p9 fx tb ad tt tc T u) := ct_eqP (lwsG ot o1 mx t2 t2 sd n ro pl vl f pa pr cL cI cT cc P9 V9 g p9 fx tb ad tt tc T u) hP hD
  refine lv_iload hx hb d_law_969 (lv_at hl 1 rfl) ?_
  have hK9 : r1 = t2 ∧ (r1 = 0 → o1 0 = v2) ∧ True := ⟨hK9.1, hK9.2, trivial⟩
  have h3 : r3 = r1 := (show r3 = t2 from hr3).trans hK9.1.symm
  refine lv_icmp_eq (tgt := 976) hx hb d_law_971 (by decide) (fun hq => ?_) (fun hq => ?_)
  · refine lv_iload hx hb d_law_976 (lv_at hl 1 rfl) ?_
    refine lv_if_ne (tgt := 992) hx hb d_law_978 (by decide) (fun hz => ?_) (fun hz => ?_)
    · refine lv_goto (tgt := 995) hx hb d_law_992 (by decide) ?_
      refine W.widen (k := cells + 4) (n := slots + 24) (by omega) (by omega) ?_
      exact K o1 t2 n f cc P9 V9 g p9 tc T u hJ _ _ _ hP hD hS (lv_sub hl [2, 3, 4, 5, 6] rfl)
    · refine lv_aload_n hx hb d_law_981 rfl (lv_at hl 5 rfl) ?_
      refine lv_iconst (v := 0) hx hb d_law_982 (by decide) ?_
      refine ct_lald hx hb hK hP 0 0 rfl rfl 0 rfl (by omega) (by omega) d_law_983 ?_
      refine lv_lload hx hb d_law_984 (lv_at hl 0 rfl) ?_
      refine ct_jeq (tgt := 992) hx hb d_law_986 d_law_987 (by decide) (fun hy => ?_) (fun hy => ?_)
      · refine lv_goto (tgt := 995) hx hb d_law_992 (by decide) ?_
        refine W.widen (k := cells + 4) (n := slots + 24) (by omega) (by omega) ?_
        exact K o1 t2 n f cc P9 V9 g p9 tc T u hJ _ _ _ hP hD hS (lv_sub hl [2, 3, 4, 5, 6] rfl)
      · exact absurd (hK9.2.1 hz) hy
  · exact absurd h3 hq
set_option maxHeartbeats 4000000 in
set_option maxRecDepth 100000 in
/-- the law's case of drawn -/
theorem ca_drawn {p : Program} {l : Launch} {e : Env} {s : State} {m : MethodId} {below : List Frame} {meth : Method} {c : Code} {dC : Nat → ClassId} {dI : Nat → Nat → Nat} {b L : Nat} {xs : Nat → Int32} {ot mx : Nat} {sd : Int64} {ro pl vl pa pr : Nat} {cL cI cT : ClassId} {fx tb : Nat} {ad tt : Nat → Nat} {s1 s2 s3 s4 tl th9 ta : Nat} {cells slots : Nat} (hL : L ≤ 2049) (C0 : lw_At p s m meth c b L xs) (hst : l.stackTraces = false) (hG : lg_G s1 s2 s3 s4 tl th9 ta (fun q : Nat => s.heap.size ≤ q) s s.heap) (hK : va_K (dC, dI) cl9 [(cL, .long), (cT, .object "HouseFunctions$Table"), (cI, .int)] s) {i : Nat} (hi : i + 3 < L) (hc9 : cells + 4 ≤ 601024) (hs9 : slots + 24 ≤ 7293000)
    (K : ∀ (o : Nat → Int64) (tw : Int32) (n : Nat) (f : Nat) (cc : Nat → Nat) (P9 : Nat → Int32) (V9 : Nat → Int32) (g : Nat → Int64) (p9 : Nat → Int64) (tc : Nat) (T : fq_T) (u : rk_U), lw_J n f cc P9 V9 tc T → ∀ (H : Heap) (locs : List Loc) (ls : Array Slot), va_P (dC, dI) cl9 (lw_ws ot o mx tw sd n ro pl vl f pa pr cL cI cT cc P9 V9 g p9 fx tb ad tt tc T u) H → va_D (fun q : Nat => s.heap.size ≤ q) (lw_ws ot o mx tw sd n ro pl vl f pa pr cL cI cT cc P9 V9 g p9 fx tb ad tt tc T u) → va_S (fun q : Nat => s.heap.size ≤ q) s.heap H locs → lv_has ls 8 [(0, .ref b), (1, .ref fx), (2, .ref mx), (3, .ref ot), (4, .int (nI i))] → W p l e room_1 s m #[Value.ref b] below meth c H locs (cells + 4) (slots + 24) (lw_Z below #[Value.ref b] s) (F0 m 995 ls [])) :
    ∀ (o : Nat → Int64) (tw : Int32) (n : Nat) (f : Nat) (cc : Nat → Nat) (P9 : Nat → Int32) (V9 : Nat → Int32) (g : Nat → Int64) (p9 : Nat → Int64) (tc : Nat) (T : fq_T) (u : rk_U), lw_J n f cc P9 V9 tc T → ∀ (H : Heap) (locs : List Loc) (ls : Array Slot), va_P (dC, dI) cl9 (lw_ws ot o mx tw sd n ro pl vl f pa pr cL cI cT cc P9 V9 g p9 fx tb ad tt tc T u) H → va_D (fun q : Nat => s.heap.size ≤ q) (lw_ws ot o mx tw sd n ro pl vl f pa pr cL cI cT cc P9 V9 g p9 fx tb ad tt tc T u) → va_S (fun q : Nat => s.heap.size ≤ q) s.heap H locs → lv_has ls 8 [(0, .ref b), (1, .ref fx), (2, .ref mx), (3, .ref ot), (4, .int (nI i))] → W p l e room_1 s m #[Value.ref b] below meth c H locs cells slots (lw_Z below #[Value.ref b] s) (F0 m 847 ls []) := by
  obtain ⟨hx, hb, hr, hml, hown, hts, hX, hbl, hlocks, hgv⟩ := C0
  have hA : ∀ q : Nat, s.heap.size ≤ q → (fun q : Nat => s.heap.size ≤ q) q := fun _ h => h
  have hbA : ¬ (fun q : Nat => s.heap.size ≤ q) b := Nat.not_le.mpr hbl
  have ha : ∀ w ∈ al_L, w.before #[Value.ref b] s = true := fun w h => hts w (am_L w h)
  intro o tw n f cc P9 V9 g p9 tc T u hJ H locs ls hP hD hS hl
  refine lv_aload_n hx hb d_law_847 rfl (lv_at hl 1 rfl) ?_
  refine lv_aload_n hx hb d_law_848 rfl (lv_at hl 0 rfl) ?_
  refine lv_iload hx hb d_law_849 (lv_at hl 4 rfl) ?_
  refine lv_iconst (v := 1) hx hb d_law_851 (by decide) ?_
  refine lv_iadd hx hb d_law_852 ?_
  refine lv_topi (fun x_1 ex_1 => ?_)
  obtain rfl : x_1 = nI (i + 1) := ex_1.trans (nI_add i 1)
  refine va_sld hx hb hX hbl hbA hS (vp_in_nI (show i + 1 < L by omega) (by omega)) d_law_853 ?_
  refine lv_topi (fun y_2 ey_2 => ?_)
  obtain rfl : y_2 = xs (i + 1) := ey_2.trans (congrArg xs (nI_clamp (by omega)))
  refine lv_i2l hx hb d_law_854 rfl ?_
  refine lv_bipush (v := 32) hx hb d_law_855 (by decide) ?_
  refine lv_lshl (v := (pu_sl (((xs (i + 1)) : Int32).toInt64) 32)) hx hb d_law_857 rfl ?_
  refine lv_aload_n hx hb d_law_858 rfl (lv_at hl 0 rfl) ?_
  refine lv_iload hx hb d_law_859 (lv_at hl 4 rfl) ?_
  refine lv_iconst (v := 2) hx hb d_law_861 (by decide) ?_
  refine lv_iadd hx hb d_law_862 ?_
  refine lv_topi (fun x_3 ex_3 => ?_)
  obtain rfl : x_3 = nI (i + 2) := ex_3.trans (nI_add i 2)
  refine va_sld hx hb hX hbl hbA hS (vp_in_nI (show i + 2 < L by omega) (by omega)) d_law_863 ?_
  refine lv_topi (fun y_4 ey_4 => ?_)
  obtain rfl : y_4 = xs (i + 2) := ey_4.trans (congrArg xs (nI_clamp (by omega)))
  refine lv_i2l hx hb d_law_864 rfl ?_
  refine lv_ldc2 (v := 4294967295) hx hb hown (ha _ wm_L_61) d_law_865 ?_
  refine lv_land hx hb d_law_868 ?_
  refine lv_lor hx hb d_law_869 ?_
  refine lv_aload_n hx hb d_law_870 rfl (lv_at hl 0 rfl) ?_
  refine lv_iload hx hb d_law_871 (lv_at hl 4 rfl) ?_
  refine lv_iconst (v := 3) hx hb d_law_873 (by decide) ?_
  refine lv_iadd hx hb d_law_874 ?_
  refine lv_topi (fun x_5 ex_5 => ?_)
  obtain rfl : x_5 = nI (i + 3) := ex_5.trans (nI_add i 3)
  refine va_sld hx hb hX hbl hbA hS (vp_in_nI (show i + 3 < L by omega) (by omega)) d_law_875 ?_
  refine lv_topi (fun y_6 ey_6 => ?_)
  obtain rfl : y_6 = xs (i + 3) := ey_6.trans (congrArg xs (nI_clamp (by omega)))
  refine cs_calli (va_runV (As := [.long ((pu_sl (((xs (i + 1)) : Int32).toInt64) 32) ||| ((((xs (i + 2)) : Int32).toInt64) &&& 4294967295)), .int (xs (i + 3))]) (rest := []) ⟨hx, hb, hml, hown, hts⟩ (c_F_drawn l dC dI fx sd tb tc (ad 0) ((pu_sl (((xs (i + 1)) : Int32).toInt64) 32) ||| ((((xs (i + 2)) : Int32).toInt64) &&& 4294967295)) (xs (i + 3)) _) (cwV 2 hts g_law_F_drawn rfl rfl rfl (by decide +kernel) ⟨Nat.le_of_ble_eq_true rfl, Nat.le_of_ble_eq_true rfl⟩) (ct_preV ct_G0ok trivial hK hP hD hS hA [7] rfl (by decide) [] rfl 7 3 rfl rfl rfl) rfl rfl hl.1 rfl (lv_room (Nat.le_of_ble_eq_true rfl)) d_law_876 ⟨show _ ≤ 601024 by omega, show _ ≤ 7293000 by omega⟩) hP hD hS hA [7] rfl (by decide) (fun _ => rfl) (fun r1 w1 H locs hr1 hP hD hS => ?_)
  obtain ⟨hP, hD⟩ : va_P (dC, dI) cl9 (lw_ws ot o mx tw sd n ro pl vl f pa pr cL cI cT cc P9 V9 g p9 fx tb ad tt tc T u) H ∧ va_D (fun q : Nat => s.heap.size ≤ q) (lw_ws ot o mx tw sd n ro pl vl f pa pr cL cI cT cc P9 V9 g p9 fx tb ad tt tc T u) := ct_eqP (lwsH ot o mx tw sd n ro pl vl f pa pr cL cI cT cc P9 V9 g p9 fx tb ad tt tc T u) hP hD
  refine lv_aload_n hx hb d_law_879 rfl (lv_at hl 2 rfl) ?_
  refine lv_aload_n hx hb d_law_880 rfl (lv_at hl 0 rfl) ?_
  refine lv_iload hx hb d_law_881 (lv_at hl 4 rfl) ?_
  refine lv_iconst (v := 1) hx hb d_law_883 (by decide) ?_
  refine lv_iadd hx hb d_law_884 ?_
  refine lv_topi (fun x_7 ex_7 => ?_)
  obtain rfl : x_7 = nI (i + 1) := ex_7.trans (nI_add i 1)
  refine va_sld hx hb hX hbl hbA hS (vp_in_nI (show i + 1 < L by omega) (by omega)) d_law_885 ?_
  refine lv_topi (fun y_8 ey_8 => ?_)
  obtain rfl : y_8 = xs (i + 1) := ey_8.trans (congrArg xs (nI_clamp (by omega)))
  refine lv_i2l hx hb d_law_886 rfl ?_
  refine lv_bipush (v := 32) hx hb d_law_887 (by decide) ?_
  refine lv_lshl (v := (pu_sl (((xs (i + 1)) : Int32).toInt64) 32)) hx hb d_law_889 rfl ?_
  refine lv_aload_n hx hb d_law_890 rfl (lv_at hl 0 rfl) ?_
  refine lv_iload hx hb d_law_891 (lv_at hl 4 rfl) ?_
  refine lv_iconst (v := 2) hx hb d_law_893 (by decide) ?_
  refine lv_iadd hx hb d_law_894 ?_
  refine lv_topi (fun x_9 ex_9 => ?_)
  obtain rfl : x_9 = nI (i + 2) := ex_9.trans (nI_add i 2)
  refine va_sld hx hb hX hbl hbA hS (vp_in_nI (show i + 2 < L by omega) (by omega)) d_law_895 ?_
  refine lv_topi (fun y_10 ey_10 => ?_)
  obtain rfl : y_10 = xs (i + 2) := ey_10.trans (congrArg xs (nI_clamp (by omega)))
  refine lv_i2l hx hb d_law_896 rfl ?_
  refine lv_ldc2 (v := 4294967295) hx hb hown (ha _ wm_L_61) d_law_897 ?_
  refine lv_land hx hb d_law_900 ?_
  refine lv_lor hx hb d_law_901 ?_
  refine lv_aload_n hx hb d_law_902 rfl (lv_at hl 0 rfl) ?_
  refine lv_iload hx hb d_law_903 (lv_at hl 4 rfl) ?_
  refine lv_iconst (v := 3) hx hb d_law_905 (by decide) ?_
  refine lv_iadd hx hb d_law_906 ?_
  refine lv_topi (fun x_11 ex_11 => ?_)
  obtain rfl : x_11 = nI (i + 3) := ex_11.trans (nI_add i 3)
  refine va_sld hx hb hX hbl hbA hS (vp_in_nI (show i + 3 < L by omega) (by omega)) d_law_907 ?_
  refine lv_topi (fun y_12 ey_12 => ?_)
  obtain rfl : y_12 = xs (i + 3) := ey_12.trans (congrArg xs (nI_clamp (by omega)))
  refine cs_calli (va_runV (As := [.long ((pu_sl (((xs (i + 1)) : Int32).toInt64) 32) ||| ((((xs (i + 2)) : Int32).toInt64) &&& 4294967295)), .int (xs (i + 3))]) (rest := [.int r1]) ⟨hx, hb, hml, hown, hts⟩ (c_M_drawn l dC dI mx tw sd n ro pl vl f pa pr ((pu_sl (((xs (i + 1)) : Int32).toInt64) 32) ||| ((((xs (i + 2)) : Int32).toInt64) &&& 4294967295)) (xs (i + 3)) _) (cwV 2 hts g_law_M_drawn rfl rfl rfl (by decide +kernel) ⟨Nat.le_of_ble_eq_true rfl, Nat.le_of_ble_eq_true rfl⟩) (ct_preV ct_G0ok trivial hK hP hD hS hA [1] rfl (by decide) [] rfl 1 4 rfl rfl rfl) rfl rfl hl.1 rfl (lv_room (Nat.le_of_ble_eq_true rfl)) d_law_908 ⟨show _ ≤ 601024 by omega, show _ ≤ 7293000 by omega⟩) hP hD hS hA [1] rfl (by decide) (fun _ => rfl) (fun r2 w2 H locs hr2 hP hD hS => ?_)
  obtain ⟨hP, hD⟩ : va_P (dC, dI) cl9 (lw_ws ot o mx 0 sd n ro pl vl f pa pr cL cI cT cc P9 V9 g p9 fx tb ad tt tc T u) H ∧ va_D (fun q : Nat => s.heap.size ≤ q) (lw_ws ot o mx 0 sd n ro pl vl f pa pr cL cI cT cc P9 V9 g p9 fx tb ad tt tc T u) := ct_eqP (lwsG ot o mx tw 0 sd n ro pl vl f pa pr cL cI cT cc P9 V9 g p9 fx tb ad tt tc T u) hP hD
  refine lv_icmp_eq (tgt := 995) hx hb d_law_911 (by decide) (fun hq => ?_) (fun hq => ?_)
  · refine W.widen (k := cells + 4) (n := slots + 24) (by omega) (by omega) ?_
    exact K o 0 n f cc P9 V9 g p9 tc T u hJ _ _ _ hP hD hS (lv_sub hl [0, 1, 2, 3, 4] rfl)
  · exact absurd (hr1.trans hr2.symm) hq
