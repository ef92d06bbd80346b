def th_lg (v : Int64) : Int32 := if v ≤ 1000000000000 then 0 else 1
def vl_lg (v : Int64) (z : S2) : Int64 := if v ≤ 1000000000000 then (if 0 < v then (if v = 1000000 then 0 else m_val (lg_P v) (lg_V v) z) else -9223372036854775808) else 0
set_option maxHeartbeats 4000000 in
set_option maxRecDepth 100000 in
/-- one pass -/
theorem ps_M_logarithm {p : Program} {l : Launch} {e : Env} {R : Room} {s : State} {m : MethodId} {args : Array Value} {below : List Frame} {meth : Method} {c : Code} {Q : State → Prop} {A : Nat → Prop} {cells slots : Nat} {dC : Nat → ClassId} {dI : Nat → Nat → Nat} {mx : Nat} {th : Int32} {sd : Int64} {nt : Int32} {ro : Nat} {pl : Nat} {vl : Nat} {f : Nat} {pa : Nat} {pr : Nat} {cL : ClassId} {g : Nat → Int64} {p9 : Nat → Int64} {v : Int64} (hF : ct_F p s m meth c b_M_logarithm ((some .long)) 7 w_M_logarithm y_M_logarithm args) (hA : ∀ q, s.heap.size ≤ q → A q) (hK : va_K (dC, dI) cl9 [(cL, .long)] s) (hRf : 4 ≤ R.frames) (hRl : 140 ≤ R.locals) (hRc : cells ≤ R.cells) (hRs : slots ≤ R.slots) (hf : f ≤ 20) (h0 : 0 < v.toInt) (hv : v.toInt ≤ 1000000000000)
    (K : ∀ (g8 p8 : Nat → Int64) (v8 : Int64), lg_P v f (g, p9) = (g8, p8) → True → lg_V v f (g, p9) = v8 → ∀ (H : Heap) (locs : List Loc) (ls : Array Slot), va_P (dC, dI) cl9 [(mx, .inr (4, [.int th, .long sd, .int nt, .ref ro, .ref pl, .ref vl, .int (nI f), .ref pa, .ref pr])), (pa, .inl (cL, 240, .inr (.inl g8))), (pr, .inl (cL, 48, .inr (.inl p8)))] H → va_D A [(mx, .inr (4, [.int th, .long sd, .int nt, .ref ro, .ref pl, .ref vl, .int (nI f), .ref pa, .ref pr])), (pa, .inl (cL, 240, .inr (.inl g8))), (pr, .inl (cL, 48, .inr (.inl p8)))] → va_S A s.heap H locs → lv_has ls 7 [(0, .ref mx), (1, .long v)] → W p l e R s m args below meth c H locs cells slots Q (F0 m 132 ls [.long v8])) :
    ∀ (H : Heap) (locs : List Loc) (ls : Array Slot), va_P (dC, dI) cl9 [(mx, .inr (4, [.int th, .long sd, .int nt, .ref ro, .ref pl, .ref vl, .int (nI f), .ref pa, .ref pr])), (pa, .inl (cL, 240, .inr (.inl g))), (pr, .inl (cL, 48, .inr (.inl p9)))] H → va_D A [(mx, .inr (4, [.int th, .long sd, .int nt, .ref ro, .ref pl, .ref vl, .int (nI f), .ref pa, .ref pr])), (pa, .inl (cL, 240, .inr (.inl g))), (pr, .inl (cL, 48, .inr (.inl p9)))] → va_S A s.heap H locs → lv_has ls 7 [(0, .ref mx), (1, .long v)] → W p l e R s m args below meth c H locs cells slots Q (F0 m 62 ls []) := by
  obtain ⟨hx, hb, hr, hml, hts, hown, hlocks, hnm⟩ := id hF
  have hown : s.vm.findClass R_M = some m.cls := hown
  have ha : ∀ w ∈ al_M, w.before args s = true := fun w h => hts w (List.mem_cons_of_mem _ h)
  intro H locs ls hP hD hS hl
  refine lv_aload_n hx hb d_M_logarithm_62 rfl (lv_at hl 0 rfl) ?_
  refine lv_ldc2 (v := 1000000) hx hb hown (ha _ wm_M_32) d_M_logarithm_63 ?_
  refine cs_callv (va_runV (As := [.long 1000000]) (rest := []) ⟨hx, hb, hml, hown, ha⟩ (d_M_logarithmOf l dC dI mx th sd nt ro pl vl f pa pr cL g p9 1000000 hf (by decide) (by decide) _) (cwV 1 ha g_M_M_logarithmOf rfl rfl rfl (by decide +kernel) ⟨Nat.le_trans (Nat.le_of_ble_eq_true rfl) hRf, Nat.le_trans (Nat.le_of_ble_eq_true rfl) hRl⟩) (ct_preV ct_G0ok trivial hK hP hD hS hA [0, 1, 2] rfl (by decide) [0] rfl 0 4 rfl rfl rfl) rfl rfl hl.1 rfl (lv_room (Nat.le_of_ble_eq_true rfl)) d_M_logarithm_66 ⟨hRc, hRs⟩) hP hD hS hA [0, 1, 2] rfl (by decide) (fun _ => rfl) (fun z_1 H locs hz_1 hP hD hS => ?_)
  have hP : va_P (dC, dI) cl9 [(mx, .inr (4, [.int th, .long sd, .int nt, .ref ro, .ref pl, .ref vl, .int (nI f), .ref pa, .ref pr])), (pa, .inl (cL, 240, .inr (.inl z_1.1))), (pr, .inl (cL, 48, .inr (.inl z_1.2)))] H := hP
  have hD : va_D A [(mx, .inr (4, [.int th, .long sd, .int nt, .ref ro, .ref pl, .ref vl, .int (nI f), .ref pa, .ref pr])), (pa, .inl (cL, 240, .inr (.inl z_1.1))), (pr, .inl (cL, 48, .inr (.inl z_1.2)))] := hD
  obtain ⟨g_2, p_3⟩ := z_1
  have hg_2 : g_2 = (lor f 1000000 g p9).1 := congrArg Prod.fst hz_1
  have hp_3 : p_3 = (lor f 1000000 g p9).2 := congrArg Prod.snd hz_1
  have hP : va_P (dC, dI) cl9 [(mx, .inr (4, [.int th, .long sd, .int nt, .ref ro, .ref pl, .ref vl, .int (nI f), .ref pa, .ref pr])), (pa, .inl (cL, 240, .inr (.inl g_2))), (pr, .inl (cL, 48, .inr (.inl p_3)))] H := hP
  have hD : va_D A [(mx, .inr (4, [.int th, .long sd, .int nt, .ref ro, .ref pl, .ref vl, .int (nI f), .ref pa, .ref pr])), (pa, .inl (cL, 240, .inr (.inl g_2))), (pr, .inl (cL, 48, .inr (.inl p_3)))] := hD
  refine lv_aload_n hx hb d_M_logarithm_69 rfl (lv_at hl 0 rfl) ?_
  refine lv_bipush (v := 6) hx hb d_M_logarithm_70 (by decide) ?_
  refine lv_iconst (v := 0) hx hb d_M_logarithm_72 (by decide) ?_
  refine cs_callv (va_runV (As := [.int 6, .int 0]) (rest := []) ⟨hx, hb, hml, hown, ha⟩ (c_M_copy l dC dI mx th sd nt ro pl vl f pa pr cL g_2 6 0 (by omega) (by omega) _) (cwV 2 ha g_M_M_copy rfl rfl rfl (by decide +kernel) ⟨Nat.le_trans (Nat.le_of_ble_eq_true rfl) hRf, Nat.le_trans (Nat.le_of_ble_eq_true rfl) hRl⟩) (ct_preV ct_G0ok trivial hK hP hD hS hA [0, 1] rfl (by decide) [0] rfl 0 4 rfl rfl rfl) rfl rfl hl.1 rfl (lv_room (Nat.le_of_ble_eq_true rfl)) d_M_logarithm_73 ⟨hRc, hRs⟩) hP hD hS hA [0, 1] rfl (by decide) (fun _ => rfl) (fun g_4 H locs hg_4 hP hD hS => ?_)
  have hP : va_P (dC, dI) cl9 [(mx, .inr (4, [.int th, .long sd, .int nt, .ref ro, .ref pl, .ref vl, .int (nI f), .ref pa, .ref pr])), (pa, .inl (cL, 240, .inr (.inl g_4))), (pr, .inl (cL, 48, .inr (.inl p_3)))] H := hP
  have hD : va_D A [(mx, .inr (4, [.int th, .long sd, .int nt, .ref ro, .ref pl, .ref vl, .int (nI f), .ref pa, .ref pr])), (pa, .inl (cL, 240, .inr (.inl g_4))), (pr, .inl (cL, 48, .inr (.inl p_3)))] := hD
  have hg_4 : g_4 = mr_cp 6 0 g_2 := hg_4.trans (ir_eq _).symm
  refine lv_aload_n hx hb d_M_logarithm_76 rfl (lv_at hl 0 rfl) ?_
  refine lv_lload_n hx hb d_M_logarithm_77 rfl (lv_at hl 1 rfl) ?_
  refine cs_callv (va_runV (As := [.long v]) (rest := []) ⟨hx, hb, hml, hown, ha⟩ (d_M_logarithmOf l dC dI mx th sd nt ro pl vl f pa pr cL g_4 p_3 v hf h0 hv _) (cwV 1 ha g_M_M_logarithmOf rfl rfl rfl (by decide +kernel) ⟨Nat.le_trans (Nat.le_of_ble_eq_true rfl) hRf, Nat.le_trans (Nat.le_of_ble_eq_true rfl) hRl⟩) (ct_preV ct_G0ok trivial hK hP hD hS hA [0, 1, 2] rfl (by decide) [0] rfl 0 4 rfl rfl rfl) rfl rfl hl.1 rfl (lv_room (Nat.le_of_ble_eq_true rfl)) d_M_logarithm_78 ⟨hRc, hRs⟩) hP hD hS hA [0, 1, 2] rfl (by decide) (fun _ => rfl) (fun z_5 H locs hz_5 hP hD hS => ?_)
  have hP : va_P (dC, dI) cl9 [(mx, .inr (4, [.int th, .long sd, .int nt, .ref ro, .ref pl, .ref vl, .int (nI f), .ref pa, .ref pr])), (pa, .inl (cL, 240, .inr (.inl z_5.1))), (pr, .inl (cL, 48, .inr (.inl z_5.2)))] H := hP
  have hD : va_D A [(mx, .inr (4, [.int th, .long sd, .int nt, .ref ro, .ref pl, .ref vl, .int (nI f), .ref pa, .ref pr])), (pa, .inl (cL, 240, .inr (.inl z_5.1))), (pr, .inl (cL, 48, .inr (.inl z_5.2)))] := hD
  obtain ⟨g_6, p_7⟩ := z_5
  have hg_6 : g_6 = (lor f v g_4 p_3).1 := congrArg Prod.fst hz_5
  have hp_7 : p_7 = (lor f v g_4 p_3).2 := congrArg Prod.snd hz_5
  have hP : va_P (dC, dI) cl9 [(mx, .inr (4, [.int th, .long sd, .int nt, .ref ro, .ref pl, .ref vl, .int (nI f), .ref pa, .ref pr])), (pa, .inl (cL, 240, .inr (.inl g_6))), (pr, .inl (cL, 48, .inr (.inl p_7)))] H := hP
  have hD : va_D A [(mx, .inr (4, [.int th, .long sd, .int nt, .ref ro, .ref pl, .ref vl, .int (nI f), .ref pa, .ref pr])), (pa, .inl (cL, 240, .inr (.inl g_6))), (pr, .inl (cL, 48, .inr (.inl p_7)))] := hD
  refine lv_lload_n hx hb d_M_logarithm_81 rfl (lv_at hl 1 rfl) ?_
  refine lv_ldc2 (v := 1000000) hx hb hown (ha _ wm_M_32) d_M_logarithm_82 ?_
  refine ct_jge (tgt := 93) hx hb d_M_logarithm_85 d_M_logarithm_86 (by decide) (fun hs_8 => ?_) (fun hs_8 => ?_)
  · refine lv_iconst (v := 0) hx hb d_M_logarithm_93 (by decide) ?_
    rw [show (0 : Int32) = lg_b v from (if_pos hs_8).symm]
    refine lv_istore (lv' := [(6, .int (lg_b v)), (0, .ref mx), (1, .long v)]) hx hb d_M_logarithm_94 hl (by decide) rfl (fun ls hl => ?_)
    refine lv_iload hx hb d_M_logarithm_96 (lv_at hl 0 rfl) ?_
    have hlb : lg_b v = 0 := if_pos hs_8
    refine lv_if_eq (tgt := 118) hx hb d_M_logarithm_98 (by decide) (fun hs_9 => ?_) (fun hs_9 => ?_)
    · refine lv_aload_n hx hb d_M_logarithm_118 rfl (lv_at hl 1 rfl) ?_
      refine lv_iconst (v := 0) hx hb d_M_logarithm_119 (by decide) ?_
      refine lv_bipush (v := 6) hx hb d_M_logarithm_120 (by decide) ?_
      refine cs_callv (va_runV (As := [.int 0, .int 6]) (rest := []) ⟨hx, hb, hml, hown, ha⟩ (c_M_less l dC dI mx th sd nt ro pl vl f pa pr cL g_6 0 6 (by omega) (by omega) _) (cwV 2 ha g_M_M_less rfl rfl rfl (by decide +kernel) ⟨Nat.le_trans (Nat.le_of_ble_eq_true rfl) hRf, Nat.le_trans (Nat.le_of_ble_eq_true rfl) hRl⟩) (ct_preV ct_G0ok trivial hK hP hD hS hA [0, 1] rfl (by decide) [0] rfl 0 4 rfl rfl rfl) rfl rfl hl.1 rfl (lv_room (Nat.le_of_ble_eq_true rfl)) d_M_logarithm_122 ⟨hRc, hRs⟩) hP hD hS hA [0, 1] rfl (by decide) (fun _ => rfl) (fun g_10 H locs hg_10 hP hD hS => ?_)
      have hP : va_P (dC, dI) cl9 [(mx, .inr (4, [.int th, .long sd, .int nt, .ref ro, .ref pl, .ref vl, .int (nI f), .ref pa, .ref pr])), (pa, .inl (cL, 240, .inr (.inl g_10))), (pr, .inl (cL, 48, .inr (.inl p_7)))] H := hP
      have hD : va_D A [(mx, .inr (4, [.int th, .long sd, .int nt, .ref ro, .ref pl, .ref vl, .int (nI f), .ref pa, .ref pr])), (pa, .inl (cL, 240, .inr (.inl g_10))), (pr, .inl (cL, 48, .inr (.inl p_7)))] := hD
      have hg_10 : g_10 = mr_les 0 6 g_6 := hg_10.trans (ir_eq _).symm
      refine lv_aload_n hx hb d_M_logarithm_125 rfl (lv_at hl 1 rfl) ?_
      refine lv_iconst (v := 0) hx hb d_M_logarithm_126 (by decide) ?_
      refine lv_iload hx hb d_M_logarithm_127 (lv_at hl 0 rfl) ?_
      refine cs_calll (va_runV (As := [.int 0, .int (lg_b v)]) (rest := []) ⟨hx, hb, hml, hown, ha⟩ (c_M_told l dC dI mx th sd nt ro pl vl f pa pr cL g_10 0 (lg_b v) (by omega) (by omega) _) (cwV 2 ha g_M_M_told rfl rfl rfl (by decide +kernel) ⟨Nat.le_trans (Nat.le_of_ble_eq_true rfl) hRf, Nat.le_trans (Nat.le_of_ble_eq_true rfl) hRl⟩) (ct_preV ct_G0ok trivial hK hP hD hS hA [0, 1] rfl (by decide) [0] rfl 0 4 rfl rfl rfl) rfl rfl hl.1 rfl (lv_room (Nat.le_of_ble_eq_true rfl)) d_M_logarithm_129 ⟨hRc, hRs⟩) hP hD hS hA [0, 1] rfl (by decide) (fun _ => rfl) (fun v_12 g_11 H locs hg_11 hP hD hS => ?_)
      have hP : va_P (dC, dI) cl9 [(mx, .inr (4, [.int th, .long sd, .int nt, .ref ro, .ref pl, .ref vl, .int (nI f), .ref pa, .ref pr])), (pa, .inl (cL, 240, .inr (.inl g_11))), (pr, .inl (cL, 48, .inr (.inl p_7)))] H := hP
      have hD : va_D A [(mx, .inr (4, [.int th, .long sd, .int nt, .ref ro, .ref pl, .ref vl, .int (nI f), .ref pa, .ref pr])), (pa, .inl (cL, 240, .inr (.inl g_11))), (pr, .inl (cL, 48, .inr (.inl p_7)))] := hD
      obtain ⟨hg_11, hv_12⟩ := hg_11
      have eP : lg_P v f (g, p9) = (g_11, p_7) := by rw [hg_11, hg_10, hp_7, hg_6, hg_4, hp_3, hg_2]; show m_tol (lg_3 v _, _) = _; unfold lg_3; rw [if_pos hlb]; rfl
      have eV : lg_V v f (g, p9) = v_12 := by show m_say f (lg_b v) _ = _; rw [eP]; exact (hv_12).symm
      exact K _ _ _ eP trivial eV _ _ _ hP hD hS (lv_sub hl [1, 2] rfl)
    · exact absurd hlb hs_9
  · refine lv_iconst (v := 1) hx hb d_M_logarithm_89 (by decide) ?_
    refine lv_goto (tgt := 94) hx hb d_M_logarithm_90 (by decide) ?_
    rw [show (1 : Int32) = lg_b v from (if_neg hs_8).symm]
    refine lv_istore (lv' := [(6, .int (lg_b v)), (0, .ref mx), (1, .long v)]) hx hb d_M_logarithm_94 hl (by decide) rfl (fun ls hl => ?_)
    refine lv_iload hx hb d_M_logarithm_96 (lv_at hl 0 rfl) ?_
    have hlb : ¬ lg_b v = 0 := by rw [show lg_b v = 1 from if_neg hs_8]; decide
    refine lv_if_eq (tgt := 118) hx hb d_M_logarithm_98 (by decide) (fun hs_13 => ?_) (fun hs_13 => ?_)
    · exact absurd hs_13 hlb
    · refine lv_aload_n hx hb d_M_logarithm_101 rfl (lv_at hl 1 rfl) ?_
      refine lv_bipush (v := 6) hx hb d_M_logarithm_102 (by decide) ?_
      refine lv_iconst (v := 0) hx hb d_M_logarithm_104 (by decide) ?_
      refine cs_callv (va_runV (As := [.int 6, .int 0]) (rest := []) ⟨hx, hb, hml, hown, ha⟩ (c_M_less l dC dI mx th sd nt ro pl vl f pa pr cL g_6 6 0 (by omega) (by omega) _) (cwV 2 ha g_M_M_less rfl rfl rfl (by decide +kernel) ⟨Nat.le_trans (Nat.le_of_ble_eq_true rfl) hRf, Nat.le_trans (Nat.le_of_ble_eq_true rfl) hRl⟩) (ct_preV ct_G0ok trivial hK hP hD hS hA [0, 1] rfl (by decide) [0] rfl 0 4 rfl rfl rfl) rfl rfl hl.1 rfl (lv_room (Nat.le_of_ble_eq_true rfl)) d_M_logarithm_105 ⟨hRc, hRs⟩) hP hD hS hA [0, 1] rfl (by decide) (fun _ => rfl) (fun g_14 H locs hg_14 hP hD hS => ?_)
      have hP : va_P (dC, dI) cl9 [(mx, .inr (4, [.int th, .long sd, .int nt, .ref ro, .ref pl, .ref vl, .int (nI f), .ref pa, .ref pr])), (pa, .inl (cL, 240, .inr (.inl g_14))), (pr, .inl (cL, 48, .inr (.inl p_7)))] H := hP
      have hD : va_D A [(mx, .inr (4, [.int th, .long sd, .int nt, .ref ro, .ref pl, .ref vl, .int (nI f), .ref pa, .ref pr])), (pa, .inl (cL, 240, .inr (.inl g_14))), (pr, .inl (cL, 48, .inr (.inl p_7)))] := hD
      have hg_14 : g_14 = mr_les 6 0 g_6 := hg_14.trans (ir_eq _).symm
      refine lv_aload_n hx hb d_M_logarithm_108 rfl (lv_at hl 1 rfl) ?_
      refine lv_iconst (v := 0) hx hb d_M_logarithm_109 (by decide) ?_
      refine lv_bipush (v := 6) hx hb d_M_logarithm_110 (by decide) ?_
      refine cs_callv (va_runV (As := [.int 0, .int 6]) (rest := []) ⟨hx, hb, hml, hown, ha⟩ (c_M_copy l dC dI mx th sd nt ro pl vl f pa pr cL g_14 0 6 (by omega) (by omega) _) (cwV 2 ha g_M_M_copy rfl rfl rfl (by decide +kernel) ⟨Nat.le_trans (Nat.le_of_ble_eq_true rfl) hRf, Nat.le_trans (Nat.le_of_ble_eq_true rfl) hRl⟩) (ct_preV ct_G0ok trivial hK hP hD hS hA [0, 1] rfl (by decide) [0] rfl 0 4 rfl rfl rfl) rfl rfl hl.1 rfl (lv_room (Nat.le_of_ble_eq_true rfl)) d_M_logarithm_112 ⟨hRc, hRs⟩) hP hD hS hA [0, 1] rfl (by decide) (fun _ => rfl) (fun g_15 H locs hg_15 hP hD hS => ?_)
      have hP : va_P (dC, dI) cl9 [(mx, .inr (4, [.int th, .long sd, .int nt, .ref ro, .ref pl, .ref vl, .int (nI f), .ref pa, .ref pr])), (pa, .inl (cL, 240, .inr (.inl g_15))), (pr, .inl (cL, 48, .inr (.inl p_7)))] H := hP
      have hD : va_D A [(mx, .inr (4, [.int th, .long sd, .int nt, .ref ro, .ref pl, .ref vl, .int (nI f), .ref pa, .ref pr])), (pa, .inl (cL, 240, .inr (.inl g_15))), (pr, .inl (cL, 48, .inr (.inl p_7)))] := hD
      have hg_15 : g_15 = mr_cp 0 6 g_14 := hg_15.trans (ir_eq _).symm
      refine lv_goto (tgt := 125) hx hb d_M_logarithm_115 (by decide) ?_
      refine lv_aload_n hx hb d_M_logarithm_125 rfl (lv_at hl 1 rfl) ?_
      refine lv_iconst (v := 0) hx hb d_M_logarithm_126 (by decide) ?_
      refine lv_iload hx hb d_M_logarithm_127 (lv_at hl 0 rfl) ?_
      refine cs_calll (va_runV (As := [.int 0, .int (lg_b v)]) (rest := []) ⟨hx, hb, hml, hown, ha⟩ (c_M_told l dC dI mx th sd nt ro pl vl f pa pr cL g_15 0 (lg_b v) (by omega) (by omega) _) (cwV 2 ha g_M_M_told rfl rfl rfl (by decide +kernel) ⟨Nat.le_trans (Nat.le_of_ble_eq_true rfl) hRf, Nat.le_trans (Nat.le_of_ble_eq_true rfl) hRl⟩) (ct_preV ct_G0ok trivial hK hP hD hS hA [0, 1] rfl (by decide) [0] rfl 0 4 rfl rfl rfl) rfl rfl hl.1 rfl (lv_room (Nat.le_of_ble_eq_true rfl)) d_M_logarithm_129 ⟨hRc, hRs⟩) hP hD hS hA [0, 1] rfl (by decide) (fun _ => rfl) (fun v_17 g_16 H locs hg_16 hP hD hS => ?_)
      have hP : va_P (dC, dI) cl9 [(mx, .inr (4, [.int th, .long sd, .int nt, .ref ro, .ref pl, .ref vl, .int (nI f), .ref pa, .ref pr])), (pa, .inl (cL, 240, .inr (.inl g_16))), (pr, .inl (cL, 48, .inr (.inl p_7)))] H := hP
      have hD : va_D A [(mx, .inr (4, [.int th, .long sd, .int nt, .ref ro, .ref pl, .ref vl, .int (nI f), .ref pa, .ref pr])), (pa, .inl (cL, 240, .inr (.inl g_16))), (pr, .inl (cL, 48, .inr (.inl p_7)))] := hD
      obtain ⟨hg_16, hv_17⟩ := hg_16
      have eP : lg_P v f (g, p9) = (g_16, p_7) := by rw [hg_16, hg_15, hg_14, hp_7, hg_6, hg_4, hp_3, hg_2]; show m_tol (lg_3 v _, _) = _; unfold lg_3; rw [if_neg hlb]; rfl
      have eV : lg_V v f (g, p9) = v_17 := by show m_say f (lg_b v) _ = _; rw [eP]; exact (hv_17).symm
      exact K _ _ _ eP trivial eV _ _ _ hP hD hS (lv_sub hl [1, 2] rfl)
set_option maxHeartbeats 4000000 in
set_option maxRecDepth 100000 in
/-- logarithm(v) -/
theorem c_M_logarithm (l : Launch) (dC : Nat → ClassId) (dI : Nat → Nat → Nat) (mx : Nat) (th : Int32) (sd : Int64) (nt : Int32) (ro : Nat) (pl : Nat) (vl : Nat) (f : Nat) (pa : Nat) (pr : Nat) (cL : ClassId) (g : Nat → Int64) (p9 : Nat → Int64) (v : Int64) (hf9 : f ≤ 20) (sz : Nat) : ct_L l y_M_logarithm w_M_logarithm { frames := 4, cells := 0, slots := 0, locals := 140 } (dC, dI) cl9 [(cL, .long)] ct_G0 [.ref mx, .long v] [(mx, .inr (4, [.int th, .long sd, .int nt, .ref ro, .ref pl, .ref vl, .int (nI f), .ref pa, .ref pr])), (pa, .inl (cL, 240, .inr (.inl g))), (pr, .inl (cL, 48, .inr (.inl p9)))] sz (S := Int32 × Nat × S2) (fun v9 (u : Int32 × Nat × S2) => u.2.1 ≤ 20 ∧ u.1 = th_lg v ∧ v9 = vl_lg v (g, p9)) (fun _ : Int32 × Nat × S2 => [(cL, .long)]) (fun u : Int32 × Nat × S2 => [(mx, .inr (4, [.int u.1, .long sd, .int nt, .ref ro, .ref pl, .ref vl, .int (nI u.2.1), .ref pa, .ref pr])), (pa, .inl (cL, 240, .inr (.inl u.2.2.1))), (pr, .inl (cL, 48, .inr (.inl u.2.2.2)))]) 0 0 := by
  refine ct_of (Qf := fun A => va_Ql (fun v9 (u : Int32 × Nat × S2) => u.2.1 ≤ 20 ∧ u.1 = th_lg v ∧ v9 = vl_lg v (g, p9)) (ct_B (S := Int32 × Nat × S2) (dC, dI) cl9 (fun _ : Int32 × Nat × S2 => [(cL, .long)]) A (fun u : Int32 × Nat × S2 => [(mx, .inr (4, [.int u.1, .long sd, .int nt, .ref ro, .ref pl, .ref vl, .int (nI u.2.1), .ref pa, .ref pr])), (pa, .inl (cL, 240, .inr (.inl u.2.2.1))), (pr, .inl (cL, 48, .inr (.inl u.2.2.2)))])) A) (cc := b_M_logarithm) (maxL := 7) (ret := ((some .long))) (by decide) rfl (Nat.le_of_ble_eq_true rfl) ?_
  intro p e s m below meth c A ls hF hA hP hK hD hG hS hl
  obtain ⟨hx, hb, hr, hml, hts, hown, hlocks, hnm⟩ := id hF
  have hown : s.vm.findClass R_M = some m.cls := hown
  have ha : ∀ w ∈ al_M, w.before [.ref mx, .long v].toArray s = true := fun w h => hts w (List.mem_cons_of_mem _ h)
  have hl : lv_has ls 7 [(0, .ref mx), (1, .long v)] := hl
  refine lv_aload_n hx hb d_M_logarithm_0 rfl (lv_at hl 0 rfl) ?_
  refine lv_lload_n hx hb d_M_logarithm_1 rfl (lv_at hl 1 rfl) ?_
  refine lv_ldc2 (v := 1000000000000) hx hb hown (ha _ wm_M_77) d_M_logarithm_2 ?_
  refine ct_jle (tgt := 13) hx hb d_M_logarithm_5 d_M_logarithm_6 (by decide) (fun hc => ?_) (fun hc => ?_)
  · refine lv_iconst (v := 0) hx hb d_M_logarithm_13 (by decide) ?_
    refine va_put (D := (dC, dI)) (ci := 4) (v := .int 0) (ty := .int) (C := R_M) (T := F_M) (N := 9) hx hb ha ui_M ft_M tk_M nm_M hown hK hP hD hS 0 rfl rfl 0 (by decide) (ha _ wm_M_5) (fun _ h9 => h9) rfl (by decide +kernel) rfl rfl (Nat.le_of_ble_eq_true rfl) d_M_logarithm_14 (fun H locs hP hD hS => ?_)
    have hP : va_P (dC, dI) cl9 [(mx, .inr (4, [.int 0, .long sd, .int nt, .ref ro, .ref pl, .ref vl, .int (nI f), .ref pa, .ref pr])), (pa, .inl (cL, 240, .inr (.inl g))), (pr, .inl (cL, 48, .inr (.inl p9)))] H := hP
    have hD : va_D A [(mx, .inr (4, [.int 0, .long sd, .int nt, .ref ro, .ref pl, .ref vl, .int (nI f), .ref pa, .ref pr])), (pa, .inl (cL, 240, .inr (.inl g))), (pr, .inl (cL, 48, .inr (.inl p9)))] := hD
    refine lv_aload_n hx hb d_M_logarithm_17 rfl (lv_at hl 0 rfl) ?_
    refine va_get (D := (dC, dI)) (ci := 4) (v := .int 0) (C := R_M) (T := F_M) (N := 9) hx hb ha ui_M hown hK hP 0 rfl rfl 0 (by decide) (ha _ wm_M_5) (fun _ h9 => h9) rfl d_M_logarithm_18 ?_
    refine lv_if_le (tgt := 26) hx hb d_M_logarithm_21 (by decide) (fun hq => ?_) (fun hq => ?_)
    · refine lv_lload_n hx hb d_M_logarithm_26 rfl (lv_at hl 1 rfl) ?_
      refine lv_lconst (v := 0) hx hb d_M_logarithm_27 (by decide) ?_
      refine ct_jgt (tgt := 36) hx hb d_M_logarithm_28 d_M_logarithm_29 (by decide) (fun hd => ?_) (fun hd => ?_)
      · refine lv_lload_n hx hb d_M_logarithm_36 rfl (lv_at hl 1 rfl) ?_
        refine lv_ldc2 (v := 1000000) hx hb hown (ha _ wm_M_32) d_M_logarithm_37 ?_
        refine ct_jne (tgt := 46) hx hb d_M_logarithm_40 d_M_logarithm_41 (by decide) (fun he => ?_) (fun he => ?_)
        · have hv : v.toInt ≤ 1000000000000 := (i64_le _ _).mp hc
          have h0 : 0 < v.toInt := (i64_lt _ _).mp hd
          refine lv_lconst (v := 0) hx hb d_M_logarithm_46 (by decide) ?_
          refine lv_lstore_n (lv' := [(3, .long 0), (0, .ref mx), (1, .long v)]) hx hb d_M_logarithm_47 rfl hl (by decide) rfl (fun ls hl => ?_)
          refine lv_iconst (v := 1) hx hb d_M_logarithm_48 (by decide) ?_
          refine lv_istore (lv' := [(5, .int 1), (3, .long 0), (0, .ref mx), (1, .long v)]) hx hb d_M_logarithm_49 hl (by decide) rfl (fun ls hl => ?_)
          refine lv_aload_n hx hb d_M_logarithm_51 rfl (lv_at hl 2 rfl) ?_
          refine lv_bipush (v := 11) hx hb d_M_logarithm_52 (by decide) ?_
          refine va_put (D := (dC, dI)) (ci := 4) (v := .int 11) (ty := .int) (C := R_M) (T := F_M) (N := 9) hx hb ha ui_M ft_M tk_M nm_M hown hK hP hD hS 0 rfl rfl 6 (by decide) (ha _ wm_M_11) (fun _ h9 => h9) rfl (by decide +kernel) rfl rfl (Nat.le_of_ble_eq_true rfl) d_M_logarithm_54 (fun H locs hP hD hS => ?_)
          have hP : va_P (dC, dI) cl9 [(mx, .inr (4, [.int 0, .long sd, .int nt, .ref ro, .ref pl, .ref vl, .int 11, .ref pa, .ref pr])), (pa, .inl (cL, 240, .inr (.inl g))), (pr, .inl (cL, 48, .inr (.inl p9)))] H := hP
          have hD : va_D A [(mx, .inr (4, [.int 0, .long sd, .int nt, .ref ro, .ref pl, .ref vl, .int 11, .ref pa, .ref pr])), (pa, .inl (cL, 240, .inr (.inl g))), (pr, .inl (cL, 48, .inr (.inl p9)))] := hD
          have hP : va_P (dC, dI) cl9 [(mx, .inr (4, [.int 0, .long sd, .int nt, .ref ro, .ref pl, .ref vl, .int (nI 11), .ref pa, .ref pr])), (pa, .inl (cL, 240, .inr (.inl g))), (pr, .inl (cL, 48, .inr (.inl p9)))] H := hP
          have hD : va_D A [(mx, .inr (4, [.int 0, .long sd, .int nt, .ref ro, .ref pl, .ref vl, .int (nI 11), .ref pa, .ref pr])), (pa, .inl (cL, 240, .inr (.inl g))), (pr, .inl (cL, 48, .inr (.inl p9)))] := hD
          refine lv_iload hx hb d_M_logarithm_57 (lv_at hl 0 rfl) ?_
          refine lv_if_eq (tgt := 149) hx hb d_M_logarithm_59 (by decide) (fun hq1 => ?_) (fun hq1 => ?_)
          · exact absurd hq1 (by decide)
          · refine ps_M_logarithm (R := { frames := 4, cells := 0, slots := 0, locals := 140 }) (cells := 0) (slots := 0) (mx := mx) (th := 0) (sd := sd) (nt := nt) (ro := ro) (pl := pl) (vl := vl) (f := 11) (pa := pa) (pr := pr) (cL := cL) (g := g) (p9 := p9) (v := v) hF hA hK (Nat.le_of_ble_eq_true rfl) (Nat.le_of_ble_eq_true rfl) (Nat.le_of_ble_eq_true rfl) (Nat.le_of_ble_eq_true rfl) (by omega) h0 hv (fun g6 p6 v6 eP6 ep6 eV6 H locs ls hP hD hS hl => ?_) _ _ _ hP hD hS (lv_sub hl [2, 3] rfl)
            refine lv_lstore_n (lv' := [(3, .long v6), (0, .ref mx), (1, .long v)]) hx hb d_M_logarithm_132 rfl hl (by decide) rfl (fun ls hl => ?_)
            refine lv_aload_n hx hb d_M_logarithm_133 rfl (lv_at hl 1 rfl) ?_
            refine lv_iconst (v := 0) hx hb d_M_logarithm_134 (by decide) ?_
            refine cs_calli (va_runV (As := [.int 0]) (rest := []) ⟨hx, hb, hml, hown, ha⟩ (c_M_isOpen l dC dI mx 0 sd nt ro pl vl pa pr cL g6 0 (by omega) _) (cwV 1 ha g_M_M_isOpen rfl rfl rfl (by decide +kernel) ⟨Nat.le_of_ble_eq_true rfl, Nat.le_of_ble_eq_true rfl⟩) (ct_preV ct_G0ok trivial hK hP hD hS hA [0, 1] rfl (by decide) [0] rfl 0 4 rfl rfl rfl) rfl rfl hl.1 rfl (lv_room (Nat.le_of_ble_eq_true rfl)) d_M_logarithm_135 ⟨Nat.le_of_ble_eq_true rfl, Nat.le_of_ble_eq_true rfl⟩) hP hD hS hA [0, 1] rfl (by decide) (fun _ => rfl) (fun o_18 u7 H locs ho_18 hP hD hS => ?_)
            have hP : va_P (dC, dI) cl9 [(mx, .inr (4, [.int 0, .long sd, .int nt, .ref ro, .ref pl, .ref vl, .int (nI 11), .ref pa, .ref pr])), (pa, .inl (cL, 240, .inr (.inl g6))), (pr, .inl (cL, 48, .inr (.inl p6)))] H := hP
            have hD : va_D A [(mx, .inr (4, [.int 0, .long sd, .int nt, .ref ro, .ref pl, .ref vl, .int (nI 11), .ref pa, .ref pr])), (pa, .inl (cL, 240, .inr (.inl g6))), (pr, .inl (cL, 48, .inr (.inl p6)))] := hD
            refine lv_istore (lv' := [(5, .int o_18), (3, .long v6), (0, .ref mx), (1, .long v)]) hx hb d_M_logarithm_138 hl (by decide) rfl (fun ls hl => ?_)
            refine lv_aload_n hx hb d_M_logarithm_140 rfl (lv_at hl 2 rfl) ?_
            refine lv_bipush (v := 17) hx hb d_M_logarithm_141 (by decide) ?_
            refine va_put (D := (dC, dI)) (ci := 4) (v := .int 17) (ty := .int) (C := R_M) (T := F_M) (N := 9) hx hb ha ui_M ft_M tk_M nm_M hown hK hP hD hS 0 rfl rfl 6 (by decide) (ha _ wm_M_11) (fun _ h9 => h9) rfl (by decide +kernel) rfl rfl (Nat.le_of_ble_eq_true rfl) d_M_logarithm_143 (fun H locs hP hD hS => ?_)
            have hP : va_P (dC, dI) cl9 [(mx, .inr (4, [.int 0, .long sd, .int nt, .ref ro, .ref pl, .ref vl, .int 17, .ref pa, .ref pr])), (pa, .inl (cL, 240, .inr (.inl g6))), (pr, .inl (cL, 48, .inr (.inl p6)))] H := hP
            have hD : va_D A [(mx, .inr (4, [.int 0, .long sd, .int nt, .ref ro, .ref pl, .ref vl, .int 17, .ref pa, .ref pr])), (pa, .inl (cL, 240, .inr (.inl g6))), (pr, .inl (cL, 48, .inr (.inl p6)))] := hD
            have hP : va_P (dC, dI) cl9 [(mx, .inr (4, [.int 0, .long sd, .int nt, .ref ro, .ref pl, .ref vl, .int (nI 17), .ref pa, .ref pr])), (pa, .inl (cL, 240, .inr (.inl g6))), (pr, .inl (cL, 48, .inr (.inl p6)))] H := hP
            have hD : va_D A [(mx, .inr (4, [.int 0, .long sd, .int nt, .ref ro, .ref pl, .ref vl, .int (nI 17), .ref pa, .ref pr])), (pa, .inl (cL, 240, .inr (.inl g6))), (pr, .inl (cL, 48, .inr (.inl p6)))] := hD
            refine lv_goto (tgt := 57) hx hb d_M_logarithm_146 (by decide) ?_
            refine lv_iload hx hb d_M_logarithm_57 (lv_at hl 0 rfl) ?_
            refine lv_if_eq (tgt := 149) hx hb d_M_logarithm_59 (by decide) (fun ho => ?_) (fun ho => ?_)
            · refine lv_lload_n hx hb d_M_logarithm_149 rfl (lv_at hl 1 rfl) ?_
              exact ct_lret hF d_M_logarithm_150 (0, 17, g6, p6) ⟨(show (17 : Nat) ≤ 20 by decide), (if_pos hc).symm, ((if_pos hc).trans ((if_pos hd).trans ((if_neg he).trans ((if_pos (by rw [eP6]; exact ho_18.symm.trans ho)).trans eV6)))).symm⟩ (hP.sub [0, 1, 2] rfl) (hD.sub [0, 1, 2] (by decide) rfl) hK hS
            · have ho2 : ¬ md_op 0 g6 = 0 := fun q => ho (ho_18.trans q)
              refine ps_M_logarithm (R := { frames := 4, cells := 0, slots := 0, locals := 140 }) (cells := 0) (slots := 0) (mx := mx) (th := 0) (sd := sd) (nt := nt) (ro := ro) (pl := pl) (vl := vl) (f := 17) (pa := pa) (pr := pr) (cL := cL) (g := g6) (p9 := p6) (v := v) hF hA hK (Nat.le_of_ble_eq_true rfl) (Nat.le_of_ble_eq_true rfl) (Nat.le_of_ble_eq_true rfl) (Nat.le_of_ble_eq_true rfl) (by omega) h0 hv (fun g7 p7 v7 eP7 ep7 eV7 H locs ls hP hD hS hl => ?_) _ _ _ hP hD hS (lv_sub hl [2, 3] rfl)
              refine lv_lstore_n (lv' := [(3, .long v7), (0, .ref mx), (1, .long v)]) hx hb d_M_logarithm_132 rfl hl (by decide) rfl (fun ls hl => ?_)
              refine lv_aload_n hx hb d_M_logarithm_133 rfl (lv_at hl 1 rfl) ?_
              refine lv_iconst (v := 0) hx hb d_M_logarithm_134 (by decide) ?_
              refine cs_calli (va_runV (As := [.int 0]) (rest := []) ⟨hx, hb, hml, hown, ha⟩ (c_M_isOpen17 l dC dI mx 0 sd nt ro pl vl pa pr cL g7 0 (by omega) _) (cwV 1 ha g_M_M_isOpen rfl rfl rfl (by decide +kernel) ⟨Nat.le_of_ble_eq_true rfl, Nat.le_of_ble_eq_true rfl⟩) (ct_preV ct_G0ok trivial hK hP hD hS hA [0, 1] rfl (by decide) [0] rfl 0 4 rfl rfl rfl) rfl rfl hl.1 rfl (lv_room (Nat.le_of_ble_eq_true rfl)) d_M_logarithm_135 ⟨Nat.le_of_ble_eq_true rfl, Nat.le_of_ble_eq_true rfl⟩) hP hD hS hA [0, 1] rfl (by decide) (fun _ => rfl) (fun o_19 u7 H locs ho_19 hP hD hS => ?_)
              have hP : va_P (dC, dI) cl9 [(mx, .inr (4, [.int 0, .long sd, .int nt, .ref ro, .ref pl, .ref vl, .int (nI 17), .ref pa, .ref pr])), (pa, .inl (cL, 240, .inr (.inl g7))), (pr, .inl (cL, 48, .inr (.inl p7)))] H := hP
              have hD : va_D A [(mx, .inr (4, [.int 0, .long sd, .int nt, .ref ro, .ref pl, .ref vl, .int (nI 17), .ref pa, .ref pr])), (pa, .inl (cL, 240, .inr (.inl g7))), (pr, .inl (cL, 48, .inr (.inl p7)))] := hD
              refine lv_istore (lv' := [(5, .int o_19), (3, .long v7), (0, .ref mx), (1, .long v)]) hx hb d_M_logarithm_138 hl (by decide) rfl (fun ls hl => ?_)
              refine lv_aload_n hx hb d_M_logarithm_140 rfl (lv_at hl 2 rfl) ?_
              refine lv_bipush (v := 17) hx hb d_M_logarithm_141 (by decide) ?_
              refine va_put (D := (dC, dI)) (ci := 4) (v := .int 17) (ty := .int) (C := R_M) (T := F_M) (N := 9) hx hb ha ui_M ft_M tk_M nm_M hown hK hP hD hS 0 rfl rfl 6 (by decide) (ha _ wm_M_11) (fun _ h9 => h9) rfl (by decide +kernel) rfl rfl (Nat.le_of_ble_eq_true rfl) d_M_logarithm_143 (fun H locs hP hD hS => ?_)
              have hP : va_P (dC, dI) cl9 [(mx, .inr (4, [.int 0, .long sd, .int nt, .ref ro, .ref pl, .ref vl, .int 17, .ref pa, .ref pr])), (pa, .inl (cL, 240, .inr (.inl g7))), (pr, .inl (cL, 48, .inr (.inl p7)))] H := hP
              have hD : va_D A [(mx, .inr (4, [.int 0, .long sd, .int nt, .ref ro, .ref pl, .ref vl, .int 17, .ref pa, .ref pr])), (pa, .inl (cL, 240, .inr (.inl g7))), (pr, .inl (cL, 48, .inr (.inl p7)))] := hD
              have hP : va_P (dC, dI) cl9 [(mx, .inr (4, [.int 0, .long sd, .int nt, .ref ro, .ref pl, .ref vl, .int (nI 17), .ref pa, .ref pr])), (pa, .inl (cL, 240, .inr (.inl g7))), (pr, .inl (cL, 48, .inr (.inl p7)))] H := hP
              have hD : va_D A [(mx, .inr (4, [.int 0, .long sd, .int nt, .ref ro, .ref pl, .ref vl, .int (nI 17), .ref pa, .ref pr])), (pa, .inl (cL, 240, .inr (.inl g7))), (pr, .inl (cL, 48, .inr (.inl p7)))] := hD
              refine lv_goto (tgt := 57) hx hb d_M_logarithm_146 (by decide) ?_
              refine lv_iload hx hb d_M_logarithm_57 (lv_at hl 0 rfl) ?_
              refine lv_if_eq (tgt := 149) hx hb d_M_logarithm_59 (by decide) (fun ho3 => ?_) (fun ho3 => ?_)
              · refine lv_lload_n hx hb d_M_logarithm_149 rfl (lv_at hl 1 rfl) ?_
                exact ct_lret hF d_M_logarithm_150 (0, 17, g7, p7) ⟨(show (17 : Nat) ≤ 20 by decide), (if_pos hc).symm, ((if_pos hc).trans ((if_pos hd).trans ((if_neg he).trans ((if_neg (by rw [eP6]; exact ho2)).trans (by rw [eP6]; exact eV7))))).symm⟩ (hP.sub [0, 1, 2] rfl) (hD.sub [0, 1, 2] (by decide) rfl) hK hS
              · exact absurd ho_19 ho3
        · refine lv_lconst (v := 0) hx hb d_M_logarithm_44 (by decide) ?_
          exact ct_lret hF d_M_logarithm_45 (0, f, g, p9) ⟨hf9, (if_pos hc).symm, ((if_pos hc).trans ((if_pos hd).trans (if_pos he))).symm⟩ (hP.sub [0, 1, 2] rfl) (hD.sub [0, 1, 2] (by decide) rfl) hK hS
      · refine lv_ldc2 (v := (-9223372036854775808)) hx hb hown (ha _ wm_M_78) d_M_logarithm_32 ?_
        exact ct_lret hF d_M_logarithm_35 (0, f, g, p9) ⟨hf9, (if_pos hc).symm, ((if_pos hc).trans (if_neg hd)).symm⟩ (hP.sub [0, 1, 2] rfl) (hD.sub [0, 1, 2] (by decide) rfl) hK hS
    · exact absurd (by decide) hq
  · refine lv_iconst (v := 1) hx hb d_M_logarithm_9 (by decide) ?_
    refine lv_goto (tgt := 14) hx hb d_M_logarithm_10 (by decide) ?_
    refine va_put (D := (dC, dI)) (ci := 4) (v := .int 1) (ty := .int) (C := R_M) (T := F_M) (N := 9) hx hb ha ui_M ft_M tk_M nm_M hown hK hP hD hS 0 rfl rfl 0 (by decide) (ha _ wm_M_5) (fun _ h9 => h9) rfl (by decide +kernel) rfl rfl (Nat.le_of_ble_eq_true rfl) d_M_logarithm_14 (fun H locs hP hD hS => ?_)
    have hP : va_P (dC, dI) cl9 [(mx, .inr (4, [.int 1, .long sd, .int nt, .ref ro, .ref pl, .ref vl, .int (nI f), .ref pa, .ref pr])), (pa, .inl (cL, 240, .inr (.inl g))), (pr, .inl (cL, 48, .inr (.inl p9)))] H := hP
    have hD : va_D A [(mx, .inr (4, [.int 1, .long sd, .int nt, .ref ro, .ref pl, .ref vl, .int (nI f), .ref pa, .ref pr])), (pa, .inl (cL, 240, .inr (.inl g))), (pr, .inl (cL, 48, .inr (.inl p9)))] := hD
    refine lv_aload_n hx hb d_M_logarithm_17 rfl (lv_at hl 0 rfl) ?_
    refine va_get (D := (dC, dI)) (ci := 4) (v := .int 1) (C := R_M) (T := F_M) (N := 9) hx hb ha ui_M hown hK hP 0 rfl rfl 0 (by decide) (ha _ wm_M_5) (fun _ h9 => h9) rfl d_M_logarithm_18 ?_
    refine lv_if_le (tgt := 26) hx hb d_M_logarithm_21 (by decide) (fun hq => ?_) (fun hq => ?_)
    · exact absurd hq (by decide)
    · refine lv_lconst (v := 0) hx hb d_M_logarithm_24 (by decide) ?_
      exact ct_lret hF d_M_logarithm_25 (1, f, g, p9) ⟨hf9, (if_neg hc).symm, (if_neg hc).symm⟩ (hP.sub [0, 1, 2] rfl) (hD.sub [0, 1, 2] (by decide) rfl) hK hS
