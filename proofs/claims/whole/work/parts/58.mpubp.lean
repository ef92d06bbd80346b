set_option maxHeartbeats 4000000 in
set_option maxRecDepth 100000 in
/-- one pass -/
theorem ps_M_pressure {p : Program} {l : Launch} {e : Env} {R : Room} {s : State} {m : MethodId} {args : Array Value} {below : List Frame} {meth : Method} {c : Code} {Q : State → Prop} {A : Nat → Prop} {cells slots : Nat} {dC : Nat → ClassId} {dI : Nat → Nat → Nat} {mx : Nat} {th : Int32} {sd : Int64} {nt : Int32} {ro : Nat} {pl : Nat} {vl : Nat} {f : Nat} {pa : Nat} {pr : Nat} {cL : ClassId} {g : Nat → Int64} {p9 : Nat → Int64} {w9 : Int32} {s9 : Int32} (hF : ct_F p s m meth c b_M_pressure ((some .long)) 6 w_M_pressure y_M_pressure args) (hA : ∀ q, s.heap.size ≤ q → A q) (hK : va_K (dC, dI) cl9 [(cL, .long)] s) (hRf : 2 ≤ R.frames) (hRl : 80 ≤ R.locals) (hRc : cells ≤ R.cells) (hRs : slots ≤ R.slots) (hf : f ≤ 20) (hw1 : -4000 ≤ w9.toInt) (hw2 : w9.toInt ≤ 10000)
    (K : ∀ (g8 p8 : Nat → Int64) (v8 : Int64), pr_P w9 s9 f (g, p9) = (g8, p8) → True → pr_V w9 s9 f (g, p9) = v8 → ∀ (H : Heap) (locs : List Loc) (ls : Array Slot), va_P (dC, dI) cl9 [(mx, .inr (4, [.int th, .long sd, .int nt, .ref ro, .ref pl, .ref vl, .int (nI f), .ref pa, .ref pr])), (pa, .inl (cL, 240, .inr (.inl g8))), (pr, .inl (cL, 48, .inr (.inl p8)))] H → va_D A [(mx, .inr (4, [.int th, .long sd, .int nt, .ref ro, .ref pl, .ref vl, .int (nI f), .ref pa, .ref pr])), (pa, .inl (cL, 240, .inr (.inl g8))), (pr, .inl (cL, 48, .inr (.inl p8)))] → va_S A s.heap H locs → lv_has ls 6 [(0, .ref mx), (1, .int w9), (2, .int s9)] → W p l e R s m args below meth c H locs cells slots Q (F0 m 103 ls [.long v8])) :
    ∀ (H : Heap) (locs : List Loc) (ls : Array Slot), va_P (dC, dI) cl9 [(mx, .inr (4, [.int th, .long sd, .int nt, .ref ro, .ref pl, .ref vl, .int (nI f), .ref pa, .ref pr])), (pa, .inl (cL, 240, .inr (.inl g))), (pr, .inl (cL, 48, .inr (.inl p9)))] H → va_D A [(mx, .inr (4, [.int th, .long sd, .int nt, .ref ro, .ref pl, .ref vl, .int (nI f), .ref pa, .ref pr])), (pa, .inl (cL, 240, .inr (.inl g))), (pr, .inl (cL, 48, .inr (.inl p9)))] → va_S A s.heap H locs → lv_has ls 6 [(0, .ref mx), (1, .int w9), (2, .int s9)] → W p l e R s m args below meth c H locs cells slots Q (F0 m 35 ls []) := by
  obtain ⟨hx, hb, hr, hml, hts, hown, hlocks, hnm⟩ := id hF
  have hown : s.vm.findClass R_M = some m.cls := hown
  have ha : ∀ w ∈ al_M, w.before args s = true := fun w h => hts w (List.mem_cons_of_mem _ h)
  intro H locs ls hP hD hS hl
  refine lv_aload_n hx hb d_M_pressure_35 rfl (lv_at hl 0 rfl) ?_
  refine lv_bipush (v := 8) hx hb d_M_pressure_36 (by decide) ?_
  refine lv_ldc2 (v := 17625) hx hb hown (ha _ wm_M_137) d_M_pressure_38 ?_
  refine lv_iload_n hx hb d_M_pressure_41 rfl (lv_at hl 1 rfl) ?_
  refine lv_if_ge (tgt := 50) hx hb d_M_pressure_42 (by decide) (fun hs_1 => ?_) (fun hs_1 => ?_)
  · refine lv_iload_n hx hb d_M_pressure_50 rfl (lv_at hl 1 rfl) ?_
    rw [show (w9 : Int32) = pr_a w9 from (if_pos hs_1).symm]
    refine lv_i2l hx hb d_M_pressure_51 rfl ?_
    refine lv_lmul hx hb d_M_pressure_52 ?_
    refine lv_ldc2 (v := 1000) hx hb hown (ha _ wm_M_125) d_M_pressure_53 ?_
    refine lv_sipush (v := 24304) hx hb d_M_pressure_56 (by decide) ?_
    refine lv_iload_n hx hb d_M_pressure_59 rfl (lv_at hl 1 rfl) ?_
    refine lv_iadd hx hb d_M_pressure_60 ?_
    refine lv_i2l hx hb d_M_pressure_61 rfl ?_
    refine lv_lmul hx hb d_M_pressure_62 ?_
    refine cs_callv (va_runV (As := [.int 8, .long (17625 * (((pr_a w9) : Int32).toInt64)), .long (1000 * (((24304 + w9) : Int32).toInt64))]) (rest := []) ⟨hx, hb, hml, hown, ha⟩ (c_M_ratio l dC dI mx th sd nt ro pl vl f pa pr cL g 8 (17625 * (pr_a w9).toInt64) (1000 * (24304 + w9).toInt64) (by omega) (by omega) (pr_ok (g := g) hf hw1 hw2).1 _) (cwV 3 ha g_M_M_ratio rfl rfl rfl (by decide +kernel) ⟨Nat.le_trans (Nat.le_of_ble_eq_true rfl) hRf, Nat.le_trans (Nat.le_of_ble_eq_true rfl) hRl⟩) (ct_preV ct_G0ok trivial hK hP hD hS hA [0, 1] rfl (by decide) [0] rfl 0 4 rfl rfl rfl) rfl rfl hl.1 rfl (lv_room (Nat.le_of_ble_eq_true rfl)) d_M_pressure_63 ⟨hRc, hRs⟩) hP hD hS hA [0, 1] rfl (by decide) (fun _ => rfl) (fun g_2 H locs hg_2 hP hD hS => ?_)
    have hP : va_P (dC, dI) cl9 [(mx, .inr (4, [.int th, .long sd, .int nt, .ref ro, .ref pl, .ref vl, .int (nI f), .ref pa, .ref pr])), (pa, .inl (cL, 240, .inr (.inl g_2))), (pr, .inl (cL, 48, .inr (.inl p9)))] H := hP
    have hD : va_D A [(mx, .inr (4, [.int th, .long sd, .int nt, .ref ro, .ref pl, .ref vl, .int (nI f), .ref pa, .ref pr])), (pa, .inl (cL, 240, .inr (.inl g_2))), (pr, .inl (cL, 48, .inr (.inl p9)))] := hD
    have hg_2 : g_2 = pr_x f w9 g := hg_2
    refine lv_aload_n hx hb d_M_pressure_66 rfl (lv_at hl 0 rfl) ?_
    refine lv_iload_n hx hb d_M_pressure_67 rfl (lv_at hl 1 rfl) ?_
    refine lv_if_ge (tgt := 75) hx hb d_M_pressure_68 (by decide) (fun hs_3 => ?_) (fun hs_3 => ?_)
    · refine lv_iconst (v := 0) hx hb d_M_pressure_75 (by decide) ?_
      rw [show (0 : Int32) = ng9 w9 from (if_pos hs_1).symm]
      have hX : ok 8 g_2 ∧ vv 8 g_2 24 ≤ 32 * 1000000 ^ f := by rw [hg_2]; exact (pr_ok (g := g) hf hw1 hw2).2
      refine cs_callv (va_runV (As := [.int (ng9 w9)]) (rest := []) ⟨hx, hb, hml, hown, ha⟩ (d_M_powerOf l dC dI mx th sd nt ro pl vl f pa pr cL g_2 p9 (ng9 w9) hf hX.1 hX.2 _) (cwV 1 ha g_M_M_powerOf rfl rfl rfl (by decide +kernel) ⟨Nat.le_trans (Nat.le_of_ble_eq_true rfl) hRf, Nat.le_trans (Nat.le_of_ble_eq_true rfl) hRl⟩) (ct_preV ct_G0ok trivial hK hP hD hS hA [0, 1, 2] rfl (by decide) [0] rfl 0 4 rfl rfl rfl) rfl rfl hl.1 rfl (lv_room (Nat.le_of_ble_eq_true rfl)) d_M_pressure_76 ⟨hRc, hRs⟩) hP hD hS hA [0, 1, 2] rfl (by decide) (fun _ => rfl) (fun z_4 H locs hz_4 hP hD hS => ?_)
      have hP : va_P (dC, dI) cl9 [(mx, .inr (4, [.int th, .long sd, .int nt, .ref ro, .ref pl, .ref vl, .int (nI f), .ref pa, .ref pr])), (pa, .inl (cL, 240, .inr (.inl z_4.1))), (pr, .inl (cL, 48, .inr (.inl z_4.2)))] H := hP
      have hD : va_D A [(mx, .inr (4, [.int th, .long sd, .int nt, .ref ro, .ref pl, .ref vl, .int (nI f), .ref pa, .ref pr])), (pa, .inl (cL, 240, .inr (.inl z_4.1))), (pr, .inl (cL, 48, .inr (.inl z_4.2)))] := hD
      obtain ⟨g_5, p_6⟩ := z_4
      have hg_5 : g_5 = (po f (ng9 w9) g_2 p9).1 := congrArg Prod.fst hz_4
      have hp_6 : p_6 = (po f (ng9 w9) g_2 p9).2 := congrArg Prod.snd hz_4
      have hP : va_P (dC, dI) cl9 [(mx, .inr (4, [.int th, .long sd, .int nt, .ref ro, .ref pl, .ref vl, .int (nI f), .ref pa, .ref pr])), (pa, .inl (cL, 240, .inr (.inl g_5))), (pr, .inl (cL, 48, .inr (.inl p_6)))] H := hP
      have hD : va_D A [(mx, .inr (4, [.int th, .long sd, .int nt, .ref ro, .ref pl, .ref vl, .int (nI f), .ref pa, .ref pr])), (pa, .inl (cL, 240, .inr (.inl g_5))), (pr, .inl (cL, 48, .inr (.inl p_6)))] := hD
      refine lv_aload_n hx hb d_M_pressure_79 rfl (lv_at hl 0 rfl) ?_
      refine lv_iconst (v := 0) hx hb d_M_pressure_80 (by decide) ?_
      refine lv_ldc2 (v := 61094) hx hb hown (ha _ wm_M_136) d_M_pressure_81 ?_
      refine lv_iload_n hx hb d_M_pressure_84 rfl (lv_at hl 2 rfl) ?_
      refine lv_i2l hx hb d_M_pressure_85 rfl ?_
      refine lv_lmul hx hb d_M_pressure_86 ?_
      refine cs_callv (va_runV (As := [.int 0, .long (61094 * ((s9 : Int32).toInt64))]) (rest := []) ⟨hx, hb, hml, hown, ha⟩ (c_M_times l dC dI mx th sd nt ro pl vl f pa pr cL g_5 0 (61094 * s9.toInt64) (by omega) _) (cwV 2 ha g_M_M_times rfl rfl rfl (by decide +kernel) ⟨Nat.le_trans (Nat.le_of_ble_eq_true rfl) hRf, Nat.le_trans (Nat.le_of_ble_eq_true rfl) hRl⟩) (ct_preV ct_G0ok trivial hK hP hD hS hA [0, 1] rfl (by decide) [0] rfl 0 4 rfl rfl rfl) rfl rfl hl.1 rfl (lv_room (Nat.le_of_ble_eq_true rfl)) d_M_pressure_87 ⟨hRc, hRs⟩) hP hD hS hA [0, 1] rfl (by decide) (fun _ => rfl) (fun g_7 H locs hg_7 hP hD hS => ?_)
      have hP : va_P (dC, dI) cl9 [(mx, .inr (4, [.int th, .long sd, .int nt, .ref ro, .ref pl, .ref vl, .int (nI f), .ref pa, .ref pr])), (pa, .inl (cL, 240, .inr (.inl g_7))), (pr, .inl (cL, 48, .inr (.inl p_6)))] H := hP
      have hD : va_D A [(mx, .inr (4, [.int th, .long sd, .int nt, .ref ro, .ref pl, .ref vl, .int (nI f), .ref pa, .ref pr])), (pa, .inl (cL, 240, .inr (.inl g_7))), (pr, .inl (cL, 48, .inr (.inl p_6)))] := hD
      have hg_7 : g_7 = mr_tim 0 (61094 * s9.toInt64) g_5 := hg_7.trans (ir_eq _).symm
      refine lv_aload_n hx hb d_M_pressure_90 rfl (lv_at hl 0 rfl) ?_
      refine lv_iconst (v := 0) hx hb d_M_pressure_91 (by decide) ?_
      refine lv_ldc2 (v := 1000) hx hb hown (ha _ wm_M_125) d_M_pressure_92 ?_
      refine cs_callv (va_runV (As := [.int 0, .long 1000]) (rest := []) ⟨hx, hb, hml, hown, ha⟩ (c_M_by l dC dI mx th sd nt ro pl vl f pa pr cL g_7 0 1000 (by omega) (by decide) _) (cwV 2 ha g_M_M_by rfl rfl rfl (by decide +kernel) ⟨Nat.le_trans (Nat.le_of_ble_eq_true rfl) hRf, Nat.le_trans (Nat.le_of_ble_eq_true rfl) hRl⟩) (ct_preV ct_G0ok trivial hK hP hD hS hA [0, 1] rfl (by decide) [0] rfl 0 4 rfl rfl rfl) rfl rfl hl.1 rfl (lv_room (Nat.le_of_ble_eq_true rfl)) d_M_pressure_95 ⟨hRc, hRs⟩) hP hD hS hA [0, 1] rfl (by decide) (fun _ => rfl) (fun g_8 H locs hg_8 hP hD hS => ?_)
      have hP : va_P (dC, dI) cl9 [(mx, .inr (4, [.int th, .long sd, .int nt, .ref ro, .ref pl, .ref vl, .int (nI f), .ref pa, .ref pr])), (pa, .inl (cL, 240, .inr (.inl g_8))), (pr, .inl (cL, 48, .inr (.inl p_6)))] H := hP
      have hD : va_D A [(mx, .inr (4, [.int th, .long sd, .int nt, .ref ro, .ref pl, .ref vl, .int (nI f), .ref pa, .ref pr])), (pa, .inl (cL, 240, .inr (.inl g_8))), (pr, .inl (cL, 48, .inr (.inl p_6)))] := hD
      have hg_8 : g_8 = mr_by 0 1000 g_7 := hg_8.trans (ir_eq _).symm
      refine lv_aload_n hx hb d_M_pressure_98 rfl (lv_at hl 0 rfl) ?_
      refine lv_iconst (v := 0) hx hb d_M_pressure_99 (by decide) ?_
      refine cs_calll (va_runV (As := [.int 0]) (rest := []) ⟨hx, hb, hml, hown, ha⟩ (c_M_before l dC dI mx th sd nt ro pl vl f pa pr cL g_8 0 (by omega) (by omega) _) (cwV 1 ha g_M_M_before rfl rfl rfl (by decide +kernel) ⟨Nat.le_trans (Nat.le_of_ble_eq_true rfl) hRf, Nat.le_trans (Nat.le_of_ble_eq_true rfl) hRl⟩) (ct_preV ct_G0ok trivial hK hP hD hS hA [0, 1] rfl (by decide) [0] rfl 0 4 rfl rfl rfl) rfl rfl hl.1 rfl (lv_room (Nat.le_of_ble_eq_true rfl)) d_M_pressure_100 ⟨hRc, hRs⟩) hP hD hS hA [0, 1] rfl (by decide) (fun _ => rfl) (fun v_9 u7 H locs hv_9 hP hD hS => ?_)
      have hP : va_P (dC, dI) cl9 [(mx, .inr (4, [.int th, .long sd, .int nt, .ref ro, .ref pl, .ref vl, .int (nI f), .ref pa, .ref pr])), (pa, .inl (cL, 240, .inr (.inl g_8))), (pr, .inl (cL, 48, .inr (.inl p_6)))] H := hP
      have hD : va_D A [(mx, .inr (4, [.int th, .long sd, .int nt, .ref ro, .ref pl, .ref vl, .int (nI f), .ref pa, .ref pr])), (pa, .inl (cL, 240, .inr (.inl g_8))), (pr, .inl (cL, 48, .inr (.inl p_6)))] := hD
      have eP : pr_P w9 s9 f (g, p9) = (g_8, p_6) := by rw [hg_8, hg_7, hp_6, hg_5, hg_2]; rfl
      have eV : pr_V w9 s9 f (g, p9) = v_9 := by show mr_be f 0 _ = _; rw [eP]; exact ((hv_9).trans (ir_eq _).symm).symm
      exact K _ _ _ eP trivial eV _ _ _ hP hD hS (lv_sub hl [0, 1, 2] rfl)
    · exact absurd hs_1 hs_3
  · refine lv_iload_n hx hb d_M_pressure_45 rfl (lv_at hl 1 rfl) ?_
    refine lv_ineg hx hb d_M_pressure_46 ?_
    refine lv_goto (tgt := 51) hx hb d_M_pressure_47 (by decide) ?_
    rw [show ((-w9) : Int32) = pr_a w9 from (if_neg hs_1).symm]
    refine lv_i2l hx hb d_M_pressure_51 rfl ?_
    refine lv_lmul hx hb d_M_pressure_52 ?_
    refine lv_ldc2 (v := 1000) hx hb hown (ha _ wm_M_125) d_M_pressure_53 ?_
    refine lv_sipush (v := 24304) hx hb d_M_pressure_56 (by decide) ?_
    refine lv_iload_n hx hb d_M_pressure_59 rfl (lv_at hl 1 rfl) ?_
    refine lv_iadd hx hb d_M_pressure_60 ?_
    refine lv_i2l hx hb d_M_pressure_61 rfl ?_
    refine lv_lmul hx hb d_M_pressure_62 ?_
    refine cs_callv (va_runV (As := [.int 8, .long (17625 * (((pr_a w9) : Int32).toInt64)), .long (1000 * (((24304 + w9) : Int32).toInt64))]) (rest := []) ⟨hx, hb, hml, hown, ha⟩ (c_M_ratio l dC dI mx th sd nt ro pl vl f pa pr cL g 8 (17625 * (pr_a w9).toInt64) (1000 * (24304 + w9).toInt64) (by omega) (by omega) (pr_ok (g := g) hf hw1 hw2).1 _) (cwV 3 ha g_M_M_ratio rfl rfl rfl (by decide +kernel) ⟨Nat.le_trans (Nat.le_of_ble_eq_true rfl) hRf, Nat.le_trans (Nat.le_of_ble_eq_true rfl) hRl⟩) (ct_preV ct_G0ok trivial hK hP hD hS hA [0, 1] rfl (by decide) [0] rfl 0 4 rfl rfl rfl) rfl rfl hl.1 rfl (lv_room (Nat.le_of_ble_eq_true rfl)) d_M_pressure_63 ⟨hRc, hRs⟩) hP hD hS hA [0, 1] rfl (by decide) (fun _ => rfl) (fun g_10 H locs hg_10 hP hD hS => ?_)
    have hP : va_P (dC, dI) cl9 [(mx, .inr (4, [.int th, .long sd, .int nt, .ref ro, .ref pl, .ref vl, .int (nI f), .ref pa, .ref pr])), (pa, .inl (cL, 240, .inr (.inl g_10))), (pr, .inl (cL, 48, .inr (.inl p9)))] H := hP
    have hD : va_D A [(mx, .inr (4, [.int th, .long sd, .int nt, .ref ro, .ref pl, .ref vl, .int (nI f), .ref pa, .ref pr])), (pa, .inl (cL, 240, .inr (.inl g_10))), (pr, .inl (cL, 48, .inr (.inl p9)))] := hD
    have hg_10 : g_10 = pr_x f w9 g := hg_10
    refine lv_aload_n hx hb d_M_pressure_66 rfl (lv_at hl 0 rfl) ?_
    refine lv_iload_n hx hb d_M_pressure_67 rfl (lv_at hl 1 rfl) ?_
    refine lv_if_ge (tgt := 75) hx hb d_M_pressure_68 (by decide) (fun hs_11 => ?_) (fun hs_11 => ?_)
    · exact absurd hs_11 hs_1
    · refine lv_iconst (v := 1) hx hb d_M_pressure_71 (by decide) ?_
      refine lv_goto (tgt := 76) hx hb d_M_pressure_72 (by decide) ?_
      rw [show (1 : Int32) = ng9 w9 from (if_neg hs_1).symm]
      have hX : ok 8 g_10 ∧ vv 8 g_10 24 ≤ 32 * 1000000 ^ f := by rw [hg_10]; exact (pr_ok (g := g) hf hw1 hw2).2
      refine cs_callv (va_runV (As := [.int (ng9 w9)]) (rest := []) ⟨hx, hb, hml, hown, ha⟩ (d_M_powerOf l dC dI mx th sd nt ro pl vl f pa pr cL g_10 p9 (ng9 w9) hf hX.1 hX.2 _) (cwV 1 ha g_M_M_powerOf rfl rfl rfl (by decide +kernel) ⟨Nat.le_trans (Nat.le_of_ble_eq_true rfl) hRf, Nat.le_trans (Nat.le_of_ble_eq_true rfl) hRl⟩) (ct_preV ct_G0ok trivial hK hP hD hS hA [0, 1, 2] rfl (by decide) [0] rfl 0 4 rfl rfl rfl) rfl rfl hl.1 rfl (lv_room (Nat.le_of_ble_eq_true rfl)) d_M_pressure_76 ⟨hRc, hRs⟩) hP hD hS hA [0, 1, 2] rfl (by decide) (fun _ => rfl) (fun z_12 H locs hz_12 hP hD hS => ?_)
      have hP : va_P (dC, dI) cl9 [(mx, .inr (4, [.int th, .long sd, .int nt, .ref ro, .ref pl, .ref vl, .int (nI f), .ref pa, .ref pr])), (pa, .inl (cL, 240, .inr (.inl z_12.1))), (pr, .inl (cL, 48, .inr (.inl z_12.2)))] H := hP
      have hD : va_D A [(mx, .inr (4, [.int th, .long sd, .int nt, .ref ro, .ref pl, .ref vl, .int (nI f), .ref pa, .ref pr])), (pa, .inl (cL, 240, .inr (.inl z_12.1))), (pr, .inl (cL, 48, .inr (.inl z_12.2)))] := hD
      obtain ⟨g_13, p_14⟩ := z_12
      have hg_13 : g_13 = (po f (ng9 w9) g_10 p9).1 := congrArg Prod.fst hz_12
      have hp_14 : p_14 = (po f (ng9 w9) g_10 p9).2 := congrArg Prod.snd hz_12
      have hP : va_P (dC, dI) cl9 [(mx, .inr (4, [.int th, .long sd, .int nt, .ref ro, .ref pl, .ref vl, .int (nI f), .ref pa, .ref pr])), (pa, .inl (cL, 240, .inr (.inl g_13))), (pr, .inl (cL, 48, .inr (.inl p_14)))] H := hP
      have hD : va_D A [(mx, .inr (4, [.int th, .long sd, .int nt, .ref ro, .ref pl, .ref vl, .int (nI f), .ref pa, .ref pr])), (pa, .inl (cL, 240, .inr (.inl g_13))), (pr, .inl (cL, 48, .inr (.inl p_14)))] := hD
      refine lv_aload_n hx hb d_M_pressure_79 rfl (lv_at hl 0 rfl) ?_
      refine lv_iconst (v := 0) hx hb d_M_pressure_80 (by decide) ?_
      refine lv_ldc2 (v := 61094) hx hb hown (ha _ wm_M_136) d_M_pressure_81 ?_
      refine lv_iload_n hx hb d_M_pressure_84 rfl (lv_at hl 2 rfl) ?_
      refine lv_i2l hx hb d_M_pressure_85 rfl ?_
      refine lv_lmul hx hb d_M_pressure_86 ?_
      refine cs_callv (va_runV (As := [.int 0, .long (61094 * ((s9 : Int32).toInt64))]) (rest := []) ⟨hx, hb, hml, hown, ha⟩ (c_M_times l dC dI mx th sd nt ro pl vl f pa pr cL g_13 0 (61094 * s9.toInt64) (by omega) _) (cwV 2 ha g_M_M_times rfl rfl rfl (by decide +kernel) ⟨Nat.le_trans (Nat.le_of_ble_eq_true rfl) hRf, Nat.le_trans (Nat.le_of_ble_eq_true rfl) hRl⟩) (ct_preV ct_G0ok trivial hK hP hD hS hA [0, 1] rfl (by decide) [0] rfl 0 4 rfl rfl rfl) rfl rfl hl.1 rfl (lv_room (Nat.le_of_ble_eq_true rfl)) d_M_pressure_87 ⟨hRc, hRs⟩) hP hD hS hA [0, 1] rfl (by decide) (fun _ => rfl) (fun g_15 H locs hg_15 hP hD hS => ?_)
      have hP : va_P (dC, dI) cl9 [(mx, .inr (4, [.int th, .long sd, .int nt, .ref ro, .ref pl, .ref vl, .int (nI f), .ref pa, .ref pr])), (pa, .inl (cL, 240, .inr (.inl g_15))), (pr, .inl (cL, 48, .inr (.inl p_14)))] H := hP
      have hD : va_D A [(mx, .inr (4, [.int th, .long sd, .int nt, .ref ro, .ref pl, .ref vl, .int (nI f), .ref pa, .ref pr])), (pa, .inl (cL, 240, .inr (.inl g_15))), (pr, .inl (cL, 48, .inr (.inl p_14)))] := hD
      have hg_15 : g_15 = mr_tim 0 (61094 * s9.toInt64) g_13 := hg_15.trans (ir_eq _).symm
      refine lv_aload_n hx hb d_M_pressure_90 rfl (lv_at hl 0 rfl) ?_
      refine lv_iconst (v := 0) hx hb d_M_pressure_91 (by decide) ?_
      refine lv_ldc2 (v := 1000) hx hb hown (ha _ wm_M_125) d_M_pressure_92 ?_
      refine cs_callv (va_runV (As := [.int 0, .long 1000]) (rest := []) ⟨hx, hb, hml, hown, ha⟩ (c_M_by l dC dI mx th sd nt ro pl vl f pa pr cL g_15 0 1000 (by omega) (by decide) _) (cwV 2 ha g_M_M_by rfl rfl rfl (by decide +kernel) ⟨Nat.le_trans (Nat.le_of_ble_eq_true rfl) hRf, Nat.le_trans (Nat.le_of_ble_eq_true rfl) hRl⟩) (ct_preV ct_G0ok trivial hK hP hD hS hA [0, 1] rfl (by decide) [0] rfl 0 4 rfl rfl rfl) rfl rfl hl.1 rfl (lv_room (Nat.le_of_ble_eq_true rfl)) d_M_pressure_95 ⟨hRc, hRs⟩) hP hD hS hA [0, 1] rfl (by decide) (fun _ => rfl) (fun g_16 H locs hg_16 hP hD hS => ?_)
      have hP : va_P (dC, dI) cl9 [(mx, .inr (4, [.int th, .long sd, .int nt, .ref ro, .ref pl, .ref vl, .int (nI f), .ref pa, .ref pr])), (pa, .inl (cL, 240, .inr (.inl g_16))), (pr, .inl (cL, 48, .inr (.inl p_14)))] H := hP
      have hD : va_D A [(mx, .inr (4, [.int th, .long sd, .int nt, .ref ro, .ref pl, .ref vl, .int (nI f), .ref pa, .ref pr])), (pa, .inl (cL, 240, .inr (.inl g_16))), (pr, .inl (cL, 48, .inr (.inl p_14)))] := hD
      have hg_16 : g_16 = mr_by 0 1000 g_15 := hg_16.trans (ir_eq _).symm
      refine lv_aload_n hx hb d_M_pressure_98 rfl (lv_at hl 0 rfl) ?_
      refine lv_iconst (v := 0) hx hb d_M_pressure_99 (by decide) ?_
      refine cs_calll (va_runV (As := [.int 0]) (rest := []) ⟨hx, hb, hml, hown, ha⟩ (c_M_before l dC dI mx th sd nt ro pl vl f pa pr cL g_16 0 (by omega) (by omega) _) (cwV 1 ha g_M_M_before rfl rfl rfl (by decide +kernel) ⟨Nat.le_trans (Nat.le_of_ble_eq_true rfl) hRf, Nat.le_trans (Nat.le_of_ble_eq_true rfl) hRl⟩) (ct_preV ct_G0ok trivial hK hP hD hS hA [0, 1] rfl (by decide) [0] rfl 0 4 rfl rfl rfl) rfl rfl hl.1 rfl (lv_room (Nat.le_of_ble_eq_true rfl)) d_M_pressure_100 ⟨hRc, hRs⟩) hP hD hS hA [0, 1] rfl (by decide) (fun _ => rfl) (fun v_17 u7 H locs hv_17 hP hD hS => ?_)
      have hP : va_P (dC, dI) cl9 [(mx, .inr (4, [.int th, .long sd, .int nt, .ref ro, .ref pl, .ref vl, .int (nI f), .ref pa, .ref pr])), (pa, .inl (cL, 240, .inr (.inl g_16))), (pr, .inl (cL, 48, .inr (.inl p_14)))] H := hP
      have hD : va_D A [(mx, .inr (4, [.int th, .long sd, .int nt, .ref ro, .ref pl, .ref vl, .int (nI f), .ref pa, .ref pr])), (pa, .inl (cL, 240, .inr (.inl g_16))), (pr, .inl (cL, 48, .inr (.inl p_14)))] := hD
      have eP : pr_P w9 s9 f (g, p9) = (g_16, p_14) := by rw [hg_16, hg_15, hp_14, hg_13, hg_10]; rfl
      have eV : pr_V w9 s9 f (g, p9) = v_17 := by show mr_be f 0 _ = _; rw [eP]; exact ((hv_17).trans (ir_eq _).symm).symm
      exact K _ _ _ eP trivial eV _ _ _ hP hD hS (lv_sub hl [0, 1, 2] rfl)
set_option maxHeartbeats 4000000 in
set_option maxRecDepth 100000 in
/-- pressure(warmth, share) -/
theorem c_M_pressure (l : Launch) (dC : Nat → ClassId) (dI : Nat → Nat → Nat) (mx : Nat) (th : Int32) (sd : Int64) (nt : Int32) (ro : Nat) (pl : Nat) (vl : Nat) (f : Nat) (pa : Nat) (pr : Nat) (cL : ClassId) (g : Nat → Int64) (p9 : Nat → Int64) (w9 s9 : Int32) (hf9 : f ≤ 20) (hw1 : -4000 ≤ w9.toInt) (hw2 : w9.toInt ≤ 10000) (sz : Nat) : ct_L l y_M_pressure w_M_pressure { frames := 2, cells := 0, slots := 0, locals := 80 } (dC, dI) cl9 [(cL, .long)] ct_G0 [.ref mx, .int w9, .int s9] [(mx, .inr (4, [.int th, .long sd, .int nt, .ref ro, .ref pl, .ref vl, .int (nI f), .ref pa, .ref pr])), (pa, .inl (cL, 240, .inr (.inl g))), (pr, .inl (cL, 48, .inr (.inl p9)))] sz (S := Int32 × Nat × S2) (fun v9 (u : Int32 × Nat × S2) => u.2.1 ≤ 20 ∧ u.1 = th ∧ v9 = pr_val w9 s9 (g, p9)) (fun _ : Int32 × Nat × S2 => [(cL, .long)]) (fun u : Int32 × Nat × S2 => [(mx, .inr (4, [.int u.1, .long sd, .int nt, .ref ro, .ref pl, .ref vl, .int (nI u.2.1), .ref pa, .ref pr])), (pa, .inl (cL, 240, .inr (.inl u.2.2.1))), (pr, .inl (cL, 48, .inr (.inl u.2.2.2)))]) 0 0 := by
  refine ct_of (Qf := fun A => va_Ql (fun v9 (u : Int32 × Nat × S2) => u.2.1 ≤ 20 ∧ u.1 = th ∧ v9 = pr_val w9 s9 (g, p9)) (ct_B (S := Int32 × Nat × S2) (dC, dI) cl9 (fun _ : Int32 × Nat × S2 => [(cL, .long)]) A (fun u : Int32 × Nat × S2 => [(mx, .inr (4, [.int u.1, .long sd, .int nt, .ref ro, .ref pl, .ref vl, .int (nI u.2.1), .ref pa, .ref pr])), (pa, .inl (cL, 240, .inr (.inl u.2.2.1))), (pr, .inl (cL, 48, .inr (.inl u.2.2.2)))])) A) (cc := b_M_pressure) (maxL := 6) (ret := ((some .long))) (by decide) rfl (Nat.le_of_ble_eq_true rfl) ?_
  intro p e s m below meth c A ls hF hA hP hK hD hG hS hl
  obtain ⟨hx, hb, hr, hml, hts, hown, hlocks, hnm⟩ := id hF
  have hown : s.vm.findClass R_M = some m.cls := hown
  have ha : ∀ w ∈ al_M, w.before [.ref mx, .int w9, .int s9].toArray s = true := fun w h => hts w (List.mem_cons_of_mem _ h)
  have hl : lv_has ls 6 [(0, .ref mx), (1, .int w9), (2, .int s9)] := hl
  refine lv_iload_n hx hb d_M_pressure_0 rfl (lv_at hl 1 rfl) ?_
  refine lv_if_eq (tgt := 8) hx hb d_M_pressure_1 (by decide) (fun h1 => ?_) (fun h1 => ?_)
  · refine lv_ldc2 (v := 61094) hx hb hown (ha _ wm_M_136) d_M_pressure_8 ?_
    refine lv_iload_n hx hb d_M_pressure_11 rfl (lv_at hl 2 rfl) ?_
    refine lv_i2l hx hb d_M_pressure_12 rfl ?_
    refine lv_lmul hx hb d_M_pressure_13 ?_
    refine lv_ldc2 (v := 1000) hx hb hown (ha _ wm_M_125) d_M_pressure_14 ?_
    refine lv_ldiv hx hb d_M_pressure_17 (by decide) ?_
    exact ct_lret hF d_M_pressure_18 (th, f, g, p9) ⟨hf9, rfl, (if_pos h1).symm⟩ (hP.sub [0, 1, 2] rfl) (hD.sub [0, 1, 2] (by decide) rfl) hK hS
  · refine lv_iload_n hx hb d_M_pressure_4 rfl (lv_at hl 2 rfl) ?_
    refine lv_if_ne (tgt := 19) hx hb d_M_pressure_5 (by decide) (fun h2 => ?_) (fun h2 => ?_)
    · refine lv_lconst (v := 0) hx hb d_M_pressure_19 (by decide) ?_
      refine lv_lstore_n (lv' := [(3, .long 0), (0, .ref mx), (1, .int w9), (2, .int s9)]) hx hb d_M_pressure_20 rfl hl (by decide) rfl (fun ls hl => ?_)
      refine lv_iconst (v := 1) hx hb d_M_pressure_21 (by decide) ?_
      refine lv_istore (lv' := [(5, .int 1), (3, .long 0), (0, .ref mx), (1, .int w9), (2, .int s9)]) hx hb d_M_pressure_22 hl (by decide) rfl (fun ls hl => ?_)
      refine lv_aload_n hx hb d_M_pressure_24 rfl (lv_at hl 2 rfl) ?_
      refine lv_bipush (v := 11) hx hb d_M_pressure_25 (by decide) ?_
      refine va_put (D := (dC, dI)) (ci := 4) (v := .int 11) (ty := .int) (C := R_M) (T := F_M) (N := 9) hx hb ha ui_M ft_M tk_M nm_M hown hK hP hD hS 0 rfl rfl 6 (by decide) (ha _ wm_M_11) (fun _ h9 => h9) rfl (by decide +kernel) rfl rfl (Nat.le_of_ble_eq_true rfl) d_M_pressure_27 (fun H locs hP hD hS => ?_)
      have hP : va_P (dC, dI) cl9 [(mx, .inr (4, [.int th, .long sd, .int nt, .ref ro, .ref pl, .ref vl, .int 11, .ref pa, .ref pr])), (pa, .inl (cL, 240, .inr (.inl g))), (pr, .inl (cL, 48, .inr (.inl p9)))] H := hP
      have hD : va_D A [(mx, .inr (4, [.int th, .long sd, .int nt, .ref ro, .ref pl, .ref vl, .int 11, .ref pa, .ref pr])), (pa, .inl (cL, 240, .inr (.inl g))), (pr, .inl (cL, 48, .inr (.inl p9)))] := hD
      have hP : va_P (dC, dI) cl9 [(mx, .inr (4, [.int th, .long sd, .int nt, .ref ro, .ref pl, .ref vl, .int (nI 11), .ref pa, .ref pr])), (pa, .inl (cL, 240, .inr (.inl g))), (pr, .inl (cL, 48, .inr (.inl p9)))] H := hP
      have hD : va_D A [(mx, .inr (4, [.int th, .long sd, .int nt, .ref ro, .ref pl, .ref vl, .int (nI 11), .ref pa, .ref pr])), (pa, .inl (cL, 240, .inr (.inl g))), (pr, .inl (cL, 48, .inr (.inl p9)))] := hD
      refine lv_iload hx hb d_M_pressure_30 (lv_at hl 0 rfl) ?_
      refine lv_if_eq (tgt := 120) hx hb d_M_pressure_32 (by decide) (fun hq1 => ?_) (fun hq1 => ?_)
      · exact absurd hq1 (by decide)
      · refine ps_M_pressure (R := { frames := 2, cells := 0, slots := 0, locals := 80 }) (cells := 0) (slots := 0) (mx := mx) (th := th) (sd := sd) (nt := nt) (ro := ro) (pl := pl) (vl := vl) (f := 11) (pa := pa) (pr := pr) (cL := cL) (g := g) (p9 := p9) (w9 := w9) (s9 := s9) hF hA hK (Nat.le_of_ble_eq_true rfl) (Nat.le_of_ble_eq_true rfl) (Nat.le_of_ble_eq_true rfl) (Nat.le_of_ble_eq_true rfl) (by decide) hw1 hw2 (fun g6 p6 v6 eP6 ep6 eV6 H locs ls hP hD hS hl => ?_) _ _ _ hP hD hS (lv_sub hl [2, 3, 4] rfl)
        refine lv_lstore_n (lv' := [(3, .long v6), (0, .ref mx), (1, .int w9), (2, .int s9)]) hx hb d_M_pressure_103 rfl hl (by decide) rfl (fun ls hl => ?_)
        refine lv_aload_n hx hb d_M_pressure_104 rfl (lv_at hl 1 rfl) ?_
        refine lv_iconst (v := 0) hx hb d_M_pressure_105 (by decide) ?_
        refine cs_calli (va_runV (As := [.int 0]) (rest := []) ⟨hx, hb, hml, hown, ha⟩ (c_M_isOpen l dC dI mx th sd nt ro pl vl pa pr cL g6 0 (by omega) _) (cwV 1 ha g_M_M_isOpen rfl rfl rfl (by decide +kernel) ⟨Nat.le_of_ble_eq_true rfl, Nat.le_of_ble_eq_true rfl⟩) (ct_preV ct_G0ok trivial hK hP hD hS hA [0, 1] rfl (by decide) [0] rfl 0 4 rfl rfl rfl) rfl rfl hl.1 rfl (lv_room (Nat.le_of_ble_eq_true rfl)) d_M_pressure_106 ⟨Nat.le_of_ble_eq_true rfl, Nat.le_of_ble_eq_true rfl⟩) hP hD hS hA [0, 1] rfl (by decide) (fun _ => rfl) (fun o_18 u7 H locs ho_18 hP hD hS => ?_)
        have hP : va_P (dC, dI) cl9 [(mx, .inr (4, [.int th, .long sd, .int nt, .ref ro, .ref pl, .ref vl, .int (nI 11), .ref pa, .ref pr])), (pa, .inl (cL, 240, .inr (.inl g6))), (pr, .inl (cL, 48, .inr (.inl p6)))] H := hP
        have hD : va_D A [(mx, .inr (4, [.int th, .long sd, .int nt, .ref ro, .ref pl, .ref vl, .int (nI 11), .ref pa, .ref pr])), (pa, .inl (cL, 240, .inr (.inl g6))), (pr, .inl (cL, 48, .inr (.inl p6)))] := hD
        refine lv_istore (lv' := [(5, .int o_18), (3, .long v6), (0, .ref mx), (1, .int w9), (2, .int s9)]) hx hb d_M_pressure_109 hl (by decide) rfl (fun ls hl => ?_)
        refine lv_aload_n hx hb d_M_pressure_111 rfl (lv_at hl 2 rfl) ?_
        refine lv_bipush (v := 17) hx hb d_M_pressure_112 (by decide) ?_
        refine va_put (D := (dC, dI)) (ci := 4) (v := .int 17) (ty := .int) (C := R_M) (T := F_M) (N := 9) hx hb ha ui_M ft_M tk_M nm_M hown hK hP hD hS 0 rfl rfl 6 (by decide) (ha _ wm_M_11) (fun _ h9 => h9) rfl (by decide +kernel) rfl rfl (Nat.le_of_ble_eq_true rfl) d_M_pressure_114 (fun H locs hP hD hS => ?_)
        have hP : va_P (dC, dI) cl9 [(mx, .inr (4, [.int th, .long sd, .int nt, .ref ro, .ref pl, .ref vl, .int 17, .ref pa, .ref pr])), (pa, .inl (cL, 240, .inr (.inl g6))), (pr, .inl (cL, 48, .inr (.inl p6)))] H := hP
        have hD : va_D A [(mx, .inr (4, [.int th, .long sd, .int nt, .ref ro, .ref pl, .ref vl, .int 17, .ref pa, .ref pr])), (pa, .inl (cL, 240, .inr (.inl g6))), (pr, .inl (cL, 48, .inr (.inl p6)))] := hD
        have hP : va_P (dC, dI) cl9 [(mx, .inr (4, [.int th, .long sd, .int nt, .ref ro, .ref pl, .ref vl, .int (nI 17), .ref pa, .ref pr])), (pa, .inl (cL, 240, .inr (.inl g6))), (pr, .inl (cL, 48, .inr (.inl p6)))] H := hP
        have hD : va_D A [(mx, .inr (4, [.int th, .long sd, .int nt, .ref ro, .ref pl, .ref vl, .int (nI 17), .ref pa, .ref pr])), (pa, .inl (cL, 240, .inr (.inl g6))), (pr, .inl (cL, 48, .inr (.inl p6)))] := hD
        refine lv_goto (tgt := 30) hx hb d_M_pressure_117 (by decide) ?_
        refine lv_iload hx hb d_M_pressure_30 (lv_at hl 0 rfl) ?_
        refine lv_if_eq (tgt := 120) hx hb d_M_pressure_32 (by decide) (fun ho => ?_) (fun ho => ?_)
        · refine lv_lload_n hx hb d_M_pressure_120 rfl (lv_at hl 1 rfl) ?_
          exact ct_lret hF d_M_pressure_121 (th, 17, g6, p6) ⟨(show (17 : Nat) ≤ 20 by decide), rfl, ((if_neg h1).trans ((if_neg h2).trans ((if_pos (by rw [eP6]; exact ho_18.symm.trans ho)).trans eV6))).symm⟩ (hP.sub [0, 1, 2] rfl) (hD.sub [0, 1, 2] (by decide) rfl) hK hS
        · have ho2 : ¬ md_op 0 g6 = 0 := fun q => ho (ho_18.trans q)
          refine ps_M_pressure (R := { frames := 2, cells := 0, slots := 0, locals := 80 }) (cells := 0) (slots := 0) (mx := mx) (th := th) (sd := sd) (nt := nt) (ro := ro) (pl := pl) (vl := vl) (f := 17) (pa := pa) (pr := pr) (cL := cL) (g := g6) (p9 := p6) (w9 := w9) (s9 := s9) hF hA hK (Nat.le_of_ble_eq_true rfl) (Nat.le_of_ble_eq_true rfl) (Nat.le_of_ble_eq_true rfl) (Nat.le_of_ble_eq_true rfl) (by decide) hw1 hw2 (fun g7 p7 v7 eP7 ep7 eV7 H locs ls hP hD hS hl => ?_) _ _ _ hP hD hS (lv_sub hl [2, 3, 4] rfl)
          refine lv_lstore_n (lv' := [(3, .long v7), (0, .ref mx), (1, .int w9), (2, .int s9)]) hx hb d_M_pressure_103 rfl hl (by decide) rfl (fun ls hl => ?_)
          refine lv_aload_n hx hb d_M_pressure_104 rfl (lv_at hl 1 rfl) ?_
          refine lv_iconst (v := 0) hx hb d_M_pressure_105 (by decide) ?_
          refine cs_calli (va_runV (As := [.int 0]) (rest := []) ⟨hx, hb, hml, hown, ha⟩ (c_M_isOpen17 l dC dI mx th sd nt ro pl vl pa pr cL g7 0 (by omega) _) (cwV 1 ha g_M_M_isOpen rfl rfl rfl (by decide +kernel) ⟨Nat.le_of_ble_eq_true rfl, Nat.le_of_ble_eq_true rfl⟩) (ct_preV ct_G0ok trivial hK hP hD hS hA [0, 1] rfl (by decide) [0] rfl 0 4 rfl rfl rfl) rfl rfl hl.1 rfl (lv_room (Nat.le_of_ble_eq_true rfl)) d_M_pressure_106 ⟨Nat.le_of_ble_eq_true rfl, Nat.le_of_ble_eq_true rfl⟩) hP hD hS hA [0, 1] rfl (by decide) (fun _ => rfl) (fun o_19 u7 H locs ho_19 hP hD hS => ?_)
          have hP : va_P (dC, dI) cl9 [(mx, .inr (4, [.int th, .long sd, .int nt, .ref ro, .ref pl, .ref vl, .int (nI 17), .ref pa, .ref pr])), (pa, .inl (cL, 240, .inr (.inl g7))), (pr, .inl (cL, 48, .inr (.inl p7)))] H := hP
          have hD : va_D A [(mx, .inr (4, [.int th, .long sd, .int nt, .ref ro, .ref pl, .ref vl, .int (nI 17), .ref pa, .ref pr])), (pa, .inl (cL, 240, .inr (.inl g7))), (pr, .inl (cL, 48, .inr (.inl p7)))] := hD
          refine lv_istore (lv' := [(5, .int o_19), (3, .long v7), (0, .ref mx), (1, .int w9), (2, .int s9)]) hx hb d_M_pressure_109 hl (by decide) rfl (fun ls hl => ?_)
          refine lv_aload_n hx hb d_M_pressure_111 rfl (lv_at hl 2 rfl) ?_
          refine lv_bipush (v := 17) hx hb d_M_pressure_112 (by decide) ?_
          refine va_put (D := (dC, dI)) (ci := 4) (v := .int 17) (ty := .int) (C := R_M) (T := F_M) (N := 9) hx hb ha ui_M ft_M tk_M nm_M hown hK hP hD hS 0 rfl rfl 6 (by decide) (ha _ wm_M_11) (fun _ h9 => h9) rfl (by decide +kernel) rfl rfl (Nat.le_of_ble_eq_true rfl) d_M_pressure_114 (fun H locs hP hD hS => ?_)
          have hP : va_P (dC, dI) cl9 [(mx, .inr (4, [.int th, .long sd, .int nt, .ref ro, .ref pl, .ref vl, .int 17, .ref pa, .ref pr])), (pa, .inl (cL, 240, .inr (.inl g7))), (pr, .inl (cL, 48, .inr (.inl p7)))] H := hP
          have hD : va_D A [(mx, .inr (4, [.int th, .long sd, .int nt, .ref ro, .ref pl, .ref vl, .int 17, .ref pa, .ref pr])), (pa, .inl (cL, 240, .inr (.inl g7))), (pr, .inl (cL, 48, .inr (.inl p7)))] := hD
          have hP : va_P (dC, dI) cl9 [(mx, .inr (4, [.int th, .long sd, .int nt, .ref ro, .ref pl, .ref vl, .int (nI 17), .ref pa, .ref pr])), (pa, .inl (cL, 240, .inr (.inl g7))), (pr, .inl (cL, 48, .inr (.inl p7)))] H := hP
          have hD : va_D A [(mx, .inr (4, [.int th, .long sd, .int nt, .ref ro, .ref pl, .ref vl, .int (nI 17), .ref pa, .ref pr])), (pa, .inl (cL, 240, .inr (.inl g7))), (pr, .inl (cL, 48, .inr (.inl p7)))] := hD
          refine lv_goto (tgt := 30) hx hb d_M_pressure_117 (by decide) ?_
          refine lv_iload hx hb d_M_pressure_30 (lv_at hl 0 rfl) ?_
          refine lv_if_eq (tgt := 120) hx hb d_M_pressure_32 (by decide) (fun ho3 => ?_) (fun ho3 => ?_)
          · refine lv_lload_n hx hb d_M_pressure_120 rfl (lv_at hl 1 rfl) ?_
            exact ct_lret hF d_M_pressure_121 (th, 17, g7, p7) ⟨(show (17 : Nat) ≤ 20 by decide), rfl, ((if_neg h1).trans ((if_neg h2).trans ((if_neg (by rw [eP6]; exact ho2)).trans (by rw [eP6]; exact eV7)))).symm⟩ (hP.sub [0, 1, 2] rfl) (hD.sub [0, 1, 2] (by decide) rfl) hK hS
          · exact absurd ho_19 ho3
    · refine lv_ldc2 (v := 61094) hx hb hown (ha _ wm_M_136) d_M_pressure_8 ?_
      refine lv_iload_n hx hb d_M_pressure_11 rfl (lv_at hl 2 rfl) ?_
      refine lv_i2l hx hb d_M_pressure_12 rfl ?_
      refine lv_lmul hx hb d_M_pressure_13 ?_
      refine lv_ldc2 (v := 1000) hx hb hown (ha _ wm_M_125) d_M_pressure_14 ?_
      refine lv_ldiv hx hb d_M_pressure_17 (by decide) ?_
      exact ct_lret hF d_M_pressure_18 (th, f, g, p9) ⟨hf9, rfl, ((if_neg h1).trans (if_pos h2)).symm⟩ (hP.sub [0, 1, 2] rfl) (hD.sub [0, 1, 2] (by decide) rfl) hK hS
def is_wm (t : Int32) : Int32 := if t < -4000 then 0 else if 10000 < t then 0 else 1
def is_nb (t : Int32) : Int32 := if t < -1000000000 then 0 else if 1000000000 < t then 0 else 1
set_option maxHeartbeats 4000000 in
set_option maxRecDepth 100000 in
/-- isWarmth -/
theorem c_M_isWarmth (l : Launch) (dC : Nat → ClassId) (dI : Nat → Nat → Nat) (t : Int32) (sz : Nat) : ct_I l y_M_isWarmth w_M_isWarmth { frames := 0, cells := 0, slots := 0, locals := 0 } (dC, dI) cl9 [] ct_G0 [.int t] [] sz (S := Unit) (fun z _ => z = is_wm t) (fun _ : Unit => []) (fun _ => []) 0 0 := by
  refine ct_of (Qf := fun A => va_Qi (fun z _ => z = is_wm t) (ct_B (S := Unit) (dC, dI) cl9 (fun _ : Unit => []) A (fun _ => [])) A) (cc := b_M_isWarmth) (maxL := 1) (ret := ((some .boolean))) (by decide) rfl (Nat.le_of_ble_eq_true rfl) ?_
  intro p e s m below meth c A ls hF hA hP hK hD hG hS hl
  obtain ⟨hx, hb, hr, hml, hts, hown, hlocks, hnm⟩ := id hF
  have hown : s.vm.findClass R_M = some m.cls := hown
  have ha : ∀ w ∈ al_M, w.before [.int t].toArray s = true := fun w h => hts w (List.mem_cons_of_mem _ h)
  have hl : lv_has ls 1 [(0, .int t)] := hl
  refine lv_iload_n hx hb d_M_isWarmth_0 rfl (lv_at hl 0 rfl) ?_
  refine lv_sipush (v := (-4000)) hx hb d_M_isWarmth_1 (by decide) ?_
  refine lv_icmp_lt (tgt := 18) hx hb d_M_isWarmth_4 (by decide) (fun h1 => ?_) (fun h1 => ?_)
  · refine lv_iconst (v := 0) hx hb d_M_isWarmth_18 (by decide) ?_
    exact ct_zret hF d_M_isWarmth_19 (by decide) () (if_pos h1).symm (hP.sub [] rfl) (hD.sub [] (by decide) rfl) hK hS
  · refine lv_iload_n hx hb d_M_isWarmth_7 rfl (lv_at hl 0 rfl) ?_
    refine lv_sipush (v := 10000) hx hb d_M_isWarmth_8 (by decide) ?_
    refine lv_icmp_gt (tgt := 18) hx hb d_M_isWarmth_11 (by decide) (fun h2 => ?_) (fun h2 => ?_)
    · refine lv_iconst (v := 0) hx hb d_M_isWarmth_18 (by decide) ?_
      exact ct_zret hF d_M_isWarmth_19 (by decide) () ((if_neg h1).trans (if_pos h2)).symm (hP.sub [] rfl) (hD.sub [] (by decide) rfl) hK hS
    · refine lv_iconst (v := 1) hx hb d_M_isWarmth_14 (by decide) ?_
      refine lv_goto (tgt := 19) hx hb d_M_isWarmth_15 (by decide) ?_
      exact ct_zret hF d_M_isWarmth_19 (by decide) () ((if_neg h1).trans (if_neg h2)).symm (hP.sub [] rfl) (hD.sub [] (by decide) rfl) hK hS
set_option maxHeartbeats 4000000 in
set_option maxRecDepth 100000 in
/-- isNumber -/
theorem c_M_isNumber (l : Launch) (dC : Nat → ClassId) (dI : Nat → Nat → Nat) (t : Int32) (sz : Nat) : ct_I l y_M_isNumber w_M_isNumber { frames := 0, cells := 0, slots := 0, locals := 0 } (dC, dI) cl9 [] ct_G0 [.int t] [] sz (S := Unit) (fun z _ => z = is_nb t) (fun _ : Unit => []) (fun _ => []) 0 0 := by
  refine ct_of (Qf := fun A => va_Qi (fun z _ => z = is_nb t) (ct_B (S := Unit) (dC, dI) cl9 (fun _ : Unit => []) A (fun _ => [])) A) (cc := b_M_isNumber) (maxL := 1) (ret := ((some .boolean))) (by decide) rfl (Nat.le_of_ble_eq_true rfl) ?_
  intro p e s m below meth c A ls hF hA hP hK hD hG hS hl
  obtain ⟨hx, hb, hr, hml, hts, hown, hlocks, hnm⟩ := id hF
  have hown : s.vm.findClass R_M = some m.cls := hown
  have ha : ∀ w ∈ al_M, w.before [.int t].toArray s = true := fun w h => hts w (List.mem_cons_of_mem _ h)
  have hl : lv_has ls 1 [(0, .int t)] := hl
  refine lv_iload_n hx hb d_M_isNumber_0 rfl (lv_at hl 0 rfl) ?_
  refine lv_ldc (v := (-1000000000)) hx hb hown (ha _ wm_M_154) d_M_isNumber_1 ?_
  refine lv_icmp_lt (tgt := 16) hx hb d_M_isNumber_3 (by decide) (fun h1 => ?_) (fun h1 => ?_)
  · refine lv_iconst (v := 0) hx hb d_M_isNumber_16 (by decide) ?_
    exact ct_zret hF d_M_isNumber_17 (by decide) () (if_pos h1).symm (hP.sub [] rfl) (hD.sub [] (by decide) rfl) hK hS
  · refine lv_iload_n hx hb d_M_isNumber_6 rfl (lv_at hl 0 rfl) ?_
    refine lv_ldc (v := 1000000000) hx hb hown (ha _ wm_M_141) d_M_isNumber_7 ?_
    refine lv_icmp_gt (tgt := 16) hx hb d_M_isNumber_9 (by decide) (fun h2 => ?_) (fun h2 => ?_)
    · refine lv_iconst (v := 0) hx hb d_M_isNumber_16 (by decide) ?_
      exact ct_zret hF d_M_isNumber_17 (by decide) () ((if_neg h1).trans (if_pos h2)).symm (hP.sub [] rfl) (hD.sub [] (by decide) rfl) hK hS
    · refine lv_iconst (v := 1) hx hb d_M_isNumber_12 (by decide) ?_
      refine lv_goto (tgt := 17) hx hb d_M_isNumber_13 (by decide) ?_
      exact ct_zret hF d_M_isNumber_17 (by decide) () ((if_neg h1).trans (if_neg h2)).symm (hP.sub [] rfl) (hD.sub [] (by decide) rfl) hK hS
