set_option maxHeartbeats 4000000 in
set_option maxRecDepth 100000 in
/-- powerOf's series -/
theorem lp_M_powerOf {p : Program} {l : Launch} {e : Env} {R : Room} {s : State} {m : MethodId} {args : Array Value} {below : List Frame} {meth : Method} {c : Code} {Q : State → Prop} {A : Nat → Prop} {cells slots : Nat} {dC : Nat → ClassId} {dI : Nat → Nat → Nat} {mx : Nat} {th : Int32} {sd : Int64} {nt : Int32} {ro : Nat} {pl : Nat} {vl : Nat} {f : Nat} {pa : Nat} {pr : Nat} {cL : ClassId} {g : Nat → Int64} {p9 : Nat → Int64} {z : Int32} {kk : Nat} (hF : ct_F p s m meth c b_M_powerOf none 3 w_M_powerOf y_M_powerOf args) (hA : ∀ q, s.heap.size ≤ q → A q) (hK : va_K (dC, dI) cl9 [(cL, .long)] s) (hRf : 1 ≤ R.frames) (hRl : 40 ≤ R.locals) (hRc : cells ≤ R.cells) (hRs : slots ≤ R.slots) (hf9 : f ≤ 24) (hkk : kk < 1000) (hk : ∀ i, i < kk → md_no 1 (pw_it f z g p9 i).1 24 = 0) (hz : ¬ md_no 1 (pw_it f z g p9 kk).1 24 = 0)
    (K : ∀ (H : Heap) (locs : List Loc) (ls : Array Slot), va_P (dC, dI) cl9 [(mx, .inr (4, [.int th, .long sd, .int nt, .ref ro, .ref pl, .ref vl, .int (nI f), .ref pa, .ref pr])), (pa, .inl (cL, 240, .inr (.inl ((pw_it f z g p9 kk).1)))), (pr, .inl (cL, 48, .inr (.inl ((pw_it f z g p9 kk).2))))] H → va_D A [(mx, .inr (4, [.int th, .long sd, .int nt, .ref ro, .ref pl, .ref vl, .int (nI f), .ref pa, .ref pr])), (pa, .inl (cL, 240, .inr (.inl ((pw_it f z g p9 kk).1)))), (pr, .inl (cL, 48, .inr (.inl ((pw_it f z g p9 kk).2))))] → va_S A s.heap H locs → lv_has ls 3 [(0, .ref mx), (1, .int z), (2, .int (nI (kk + 1)))] → W p l e R s m args below meth c H locs cells slots Q (F0 m 83 ls [])) :
    ∀ (n9 i : Nat), i + n9 = kk → ∀ (H : Heap) (locs : List Loc) (ls : Array Slot), va_P (dC, dI) cl9 [(mx, .inr (4, [.int th, .long sd, .int nt, .ref ro, .ref pl, .ref vl, .int (nI f), .ref pa, .ref pr])), (pa, .inl (cL, 240, .inr (.inl ((pw_it f z g p9 i).1)))), (pr, .inl (cL, 48, .inr (.inl ((pw_it f z g p9 i).2))))] H → va_D A [(mx, .inr (4, [.int th, .long sd, .int nt, .ref ro, .ref pl, .ref vl, .int (nI f), .ref pa, .ref pr])), (pa, .inl (cL, 240, .inr (.inl ((pw_it f z g p9 i).1)))), (pr, .inl (cL, 48, .inr (.inl ((pw_it f z g p9 i).2))))] → va_S A s.heap H locs → lv_has ls 3 [(0, .ref mx), (1, .int z), (2, .int (nI (i + 1)))] → W p l e R s m args below meth c H locs cells slots Q (F0 m 29 ls []) := by
  obtain ⟨hx, hb, hr, hml, hts, hown, hlocks, hnm⟩ := id hF
  have hown : s.vm.findClass R_M = some m.cls := hown
  have ha : ∀ w ∈ al_M, w.before args s = true := fun w h => hts w (List.mem_cons_of_mem _ h)
  intro n9
  induction n9 with
  | zero =>
    intro i hi H locs ls hP hD hS hl
    obtain rfl : kk = i := by omega
    refine lv_aload_n hx hb d_M_powerOf_29 rfl (lv_at hl 0 rfl) ?_
    refine lv_iconst (v := 1) hx hb d_M_powerOf_30 (by decide) ?_
    refine cs_calli (va_runV (As := [.int 1]) (rest := []) ⟨hx, hb, hml, hown, ha⟩ (c_M_isNothing l dC dI mx th sd nt ro pl vl f pa pr cL ((pw_it f z g p9 kk).1) 1 (by omega) _) (cwV 1 ha g_M_M_isNothing rfl rfl rfl (by decide +kernel) ⟨Nat.le_trans (Nat.le_of_ble_eq_true rfl) hRf, Nat.le_trans (Nat.le_of_ble_eq_true rfl) hRl⟩) (ct_preV ct_G0ok trivial hK hP hD hS hA [0, 1] rfl (by decide) [0] rfl 0 4 rfl rfl rfl) rfl rfl hl.1 rfl (lv_room (Nat.le_of_ble_eq_true rfl)) d_M_powerOf_31 ⟨hRc, hRs⟩) hP hD hS hA [0, 1] rfl (by decide) (fun _ => rfl) (fun r9 u7 H locs hq hP hD hS => ?_)
    have hP : va_P (dC, dI) cl9 [(mx, .inr (4, [.int th, .long sd, .int nt, .ref ro, .ref pl, .ref vl, .int (nI f), .ref pa, .ref pr])), (pa, .inl (cL, 240, .inr (.inl ((pw_it f z g p9 kk).1)))), (pr, .inl (cL, 48, .inr (.inl ((pw_it f z g p9 kk).2))))] H := hP
    have hD : va_D A [(mx, .inr (4, [.int th, .long sd, .int nt, .ref ro, .ref pl, .ref vl, .int (nI f), .ref pa, .ref pr])), (pa, .inl (cL, 240, .inr (.inl ((pw_it f z g p9 kk).1)))), (pr, .inl (cL, 48, .inr (.inl ((pw_it f z g p9 kk).2))))] := hD
    refine lv_if_ne (tgt := 83) hx hb d_M_powerOf_34 (by decide) (fun hc => ?_) (fun hc => ?_)
    · exact K _ _ _ hP hD hS (lv_sub hl [0, 1, 2] rfl)
    · exact absurd (hq.symm.trans hc) hz
  | succ n9 ih =>
    intro i hi H locs ls hP hD hS hl
    have hlt : i < kk := by omega
    refine lv_aload_n hx hb d_M_powerOf_29 rfl (lv_at hl 0 rfl) ?_
    refine lv_iconst (v := 1) hx hb d_M_powerOf_30 (by decide) ?_
    refine cs_calli (va_runV (As := [.int 1]) (rest := []) ⟨hx, hb, hml, hown, ha⟩ (c_M_isNothing l dC dI mx th sd nt ro pl vl f pa pr cL ((pw_it f z g p9 i).1) 1 (by omega) _) (cwV 1 ha g_M_M_isNothing rfl rfl rfl (by decide +kernel) ⟨Nat.le_trans (Nat.le_of_ble_eq_true rfl) hRf, Nat.le_trans (Nat.le_of_ble_eq_true rfl) hRl⟩) (ct_preV ct_G0ok trivial hK hP hD hS hA [0, 1] rfl (by decide) [0] rfl 0 4 rfl rfl rfl) rfl rfl hl.1 rfl (lv_room (Nat.le_of_ble_eq_true rfl)) d_M_powerOf_31 ⟨hRc, hRs⟩) hP hD hS hA [0, 1] rfl (by decide) (fun _ => rfl) (fun r9 u7 H locs hq hP hD hS => ?_)
    have hP : va_P (dC, dI) cl9 [(mx, .inr (4, [.int th, .long sd, .int nt, .ref ro, .ref pl, .ref vl, .int (nI f), .ref pa, .ref pr])), (pa, .inl (cL, 240, .inr (.inl ((pw_it f z g p9 i).1)))), (pr, .inl (cL, 48, .inr (.inl ((pw_it f z g p9 i).2))))] H := hP
    have hD : va_D A [(mx, .inr (4, [.int th, .long sd, .int nt, .ref ro, .ref pl, .ref vl, .int (nI f), .ref pa, .ref pr])), (pa, .inl (cL, 240, .inr (.inl ((pw_it f z g p9 i).1)))), (pr, .inl (cL, 48, .inr (.inl ((pw_it f z g p9 i).2))))] := hD
    refine lv_if_ne (tgt := 83) hx hb d_M_powerOf_34 (by decide) (fun hc => ?_) (fun hc => ?_)
    · exact absurd (hq.trans (hk i hlt)) hc
    · refine lv_aload_n hx hb d_M_powerOf_37 rfl (lv_at hl 0 rfl) ?_
      refine lv_iconst (v := 1) hx hb d_M_powerOf_38 (by decide) ?_
      refine lv_iconst (v := 1) hx hb d_M_powerOf_39 (by decide) ?_
      refine lv_iconst (v := 2) hx hb d_M_powerOf_40 (by decide) ?_
      refine cs_callv (va_runV (As := [.int 1, .int 1, .int 2]) (rest := []) ⟨hx, hb, hml, hown, ha⟩ (c_M_multiply l dC dI mx th sd nt ro pl vl f pa pr cL ((pw_it f z g p9 i).1) ((pw_it f z g p9 i).2) 1 1 2 (by omega) (by omega) (by omega) hf9 _) (cwV 3 ha g_M_M_multiply rfl rfl rfl (by decide +kernel) ⟨Nat.le_trans (Nat.le_of_ble_eq_true rfl) hRf, Nat.le_trans (Nat.le_of_ble_eq_true rfl) hRl⟩) (ct_preV ct_G0ok trivial hK hP hD hS hA [0, 1, 2] rfl (by decide) [0] rfl 0 4 rfl rfl rfl) rfl rfl hl.1 rfl (lv_room (Nat.le_of_ble_eq_true rfl)) d_M_powerOf_41 ⟨hRc, hRs⟩) hP hD hS hA [0, 1, 2] rfl (by decide) (fun _ => rfl) (fun z_1 H locs hz_1 hP hD hS => ?_)
      have hP : va_P (dC, dI) cl9 [(mx, .inr (4, [.int th, .long sd, .int nt, .ref ro, .ref pl, .ref vl, .int (nI f), .ref pa, .ref pr])), (pa, .inl (cL, 240, .inr (.inl z_1.1))), (pr, .inl (cL, 48, .inr (.inl z_1.2)))] H := hP
      have hD : va_D A [(mx, .inr (4, [.int th, .long sd, .int nt, .ref ro, .ref pl, .ref vl, .int (nI f), .ref pa, .ref pr])), (pa, .inl (cL, 240, .inr (.inl z_1.1))), (pr, .inl (cL, 48, .inr (.inl z_1.2)))] := hD
      obtain ⟨g_2, p_3⟩ := z_1
      obtain ⟨hg_2, hp_3⟩ := hz_1
      have hg_2 : g_2 = mr_mul f 1 1 2 ((pw_it f z g p9 i).1) ((pw_it f z g p9 i).2) := hg_2
      have hp_3 : p_3 = mr_mo 1 2 ((pw_it f z g p9 i).1) ((pw_it f z g p9 i).2) := hp_3
      have hP : va_P (dC, dI) cl9 [(mx, .inr (4, [.int th, .long sd, .int nt, .ref ro, .ref pl, .ref vl, .int (nI f), .ref pa, .ref pr])), (pa, .inl (cL, 240, .inr (.inl g_2))), (pr, .inl (cL, 48, .inr (.inl p_3)))] H := hP
      have hD : va_D A [(mx, .inr (4, [.int th, .long sd, .int nt, .ref ro, .ref pl, .ref vl, .int (nI f), .ref pa, .ref pr])), (pa, .inl (cL, 240, .inr (.inl g_2))), (pr, .inl (cL, 48, .inr (.inl p_3)))] := hD
      refine lv_aload_n hx hb d_M_powerOf_44 rfl (lv_at hl 0 rfl) ?_
      refine lv_iconst (v := 1) hx hb d_M_powerOf_45 (by decide) ?_
      refine lv_iload_n hx hb d_M_powerOf_46 rfl (lv_at hl 2 rfl) ?_
      refine lv_i2l hx hb d_M_powerOf_47 rfl ?_
      refine cs_callv (va_runV (As := [.int 1, .long (((nI (i + 1)) : Int32).toInt64)]) (rest := []) ⟨hx, hb, hml, hown, ha⟩ (c_M_by l dC dI mx th sd nt ro pl vl f pa pr cL g_2 1 (nI (i + 1)).toInt64 (by omega) (md_q1 (by omega) (by omega)) _) (cwV 2 ha g_M_M_by rfl rfl rfl (by decide +kernel) ⟨Nat.le_trans (Nat.le_of_ble_eq_true rfl) hRf, Nat.le_trans (Nat.le_of_ble_eq_true rfl) hRl⟩) (ct_preV ct_G0ok trivial hK hP hD hS hA [0, 1] rfl (by decide) [0] rfl 0 4 rfl rfl rfl) rfl rfl hl.1 rfl (lv_room (Nat.le_of_ble_eq_true rfl)) d_M_powerOf_48 ⟨hRc, hRs⟩) hP hD hS hA [0, 1] rfl (by decide) (fun _ => rfl) (fun g_4 H locs hg_4 hP hD hS => ?_)
      have hP : va_P (dC, dI) cl9 [(mx, .inr (4, [.int th, .long sd, .int nt, .ref ro, .ref pl, .ref vl, .int (nI f), .ref pa, .ref pr])), (pa, .inl (cL, 240, .inr (.inl g_4))), (pr, .inl (cL, 48, .inr (.inl p_3)))] H := hP
      have hD : va_D A [(mx, .inr (4, [.int th, .long sd, .int nt, .ref ro, .ref pl, .ref vl, .int (nI f), .ref pa, .ref pr])), (pa, .inl (cL, 240, .inr (.inl g_4))), (pr, .inl (cL, 48, .inr (.inl p_3)))] := hD
      have hg_4 : g_4 = mr_by 1 (nI (i + 1)).toInt64 g_2 := hg_4.trans (ir_eq _).symm
      refine lv_iload_n hx hb d_M_powerOf_51 rfl (lv_at hl 1 rfl) ?_
      refine lv_if_eq (tgt := 71) hx hb d_M_powerOf_52 (by decide) (fun hbz => ?_) (fun hbz => ?_)
      · refine lv_aload_n hx hb d_M_powerOf_71 rfl (lv_at hl 0 rfl) ?_
        refine lv_iconst (v := 0) hx hb d_M_powerOf_72 (by decide) ?_
        refine lv_iconst (v := 1) hx hb d_M_powerOf_73 (by decide) ?_
        refine cs_callv (va_runV (As := [.int 0, .int 1]) (rest := []) ⟨hx, hb, hml, hown, ha⟩ (c_M_add l dC dI mx th sd nt ro pl vl f pa pr cL g_4 0 1 (by omega) (by omega) _) (cwV 2 ha g_M_M_add rfl rfl rfl (by decide +kernel) ⟨Nat.le_trans (Nat.le_of_ble_eq_true rfl) hRf, Nat.le_trans (Nat.le_of_ble_eq_true rfl) hRl⟩) (ct_preV ct_G0ok trivial hK hP hD hS hA [0, 1] rfl (by decide) [0] rfl 0 4 rfl rfl rfl) rfl rfl hl.1 rfl (lv_room (Nat.le_of_ble_eq_true rfl)) d_M_powerOf_74 ⟨hRc, hRs⟩) hP hD hS hA [0, 1] rfl (by decide) (fun _ => rfl) (fun g_5 H locs hg_5 hP hD hS => ?_)
        have hP : va_P (dC, dI) cl9 [(mx, .inr (4, [.int th, .long sd, .int nt, .ref ro, .ref pl, .ref vl, .int (nI f), .ref pa, .ref pr])), (pa, .inl (cL, 240, .inr (.inl g_5))), (pr, .inl (cL, 48, .inr (.inl p_3)))] H := hP
        have hD : va_D A [(mx, .inr (4, [.int th, .long sd, .int nt, .ref ro, .ref pl, .ref vl, .int (nI f), .ref pa, .ref pr])), (pa, .inl (cL, 240, .inr (.inl g_5))), (pr, .inl (cL, 48, .inr (.inl p_3)))] := hD
        have hg_5 : g_5 = mr_add 0 1 g_4 := hg_5.trans (ir_eq _).symm
        refine lv_iinc (v := (nI (i + 1 + 1))) (lv' := [(2, .int (nI (i + 1 + 1))), (0, .ref mx), (1, .int z)]) hx hb d_M_powerOf_77 hl (k := 2) rfl (by exact nI_1 (i + 1)) (by decide) rfl (fun ls hl => ?_)
        refine lv_goto (tgt := 29) hx hb d_M_powerOf_80 (by decide) ?_
        have e9 : pw_it f z g p9 (i + 1) = (g_5, p_3) := by show pw_st f z (nI (i + 1)) _ = _; rw [hg_5, hg_4, hp_3, hg_2]; exact Prod.ext (if_pos hbz) rfl
        exact ih (i + 1) (by omega) _ _ _ (by rw [e9]; exact hP) (by rw [e9]; exact hD) hS (lv_sub hl [1, 2, 0] rfl)
      · refine lv_iload_n hx hb d_M_powerOf_55 rfl (lv_at hl 2 rfl) ?_
        refine lv_iconst (v := 2) hx hb d_M_powerOf_56 (by decide) ?_
        refine lv_irem hx hb d_M_powerOf_57 (by decide) ?_
        refine lv_iconst (v := 1) hx hb d_M_powerOf_58 (by decide) ?_
        refine lv_icmp_ne (tgt := 71) hx hb d_M_powerOf_59 (by decide) (fun ho => ?_) (fun ho => ?_)
        · refine lv_aload_n hx hb d_M_powerOf_71 rfl (lv_at hl 0 rfl) ?_
          refine lv_iconst (v := 0) hx hb d_M_powerOf_72 (by decide) ?_
          refine lv_iconst (v := 1) hx hb d_M_powerOf_73 (by decide) ?_
          refine cs_callv (va_runV (As := [.int 0, .int 1]) (rest := []) ⟨hx, hb, hml, hown, ha⟩ (c_M_add l dC dI mx th sd nt ro pl vl f pa pr cL g_4 0 1 (by omega) (by omega) _) (cwV 2 ha g_M_M_add rfl rfl rfl (by decide +kernel) ⟨Nat.le_trans (Nat.le_of_ble_eq_true rfl) hRf, Nat.le_trans (Nat.le_of_ble_eq_true rfl) hRl⟩) (ct_preV ct_G0ok trivial hK hP hD hS hA [0, 1] rfl (by decide) [0] rfl 0 4 rfl rfl rfl) rfl rfl hl.1 rfl (lv_room (Nat.le_of_ble_eq_true rfl)) d_M_powerOf_74 ⟨hRc, hRs⟩) hP hD hS hA [0, 1] rfl (by decide) (fun _ => rfl) (fun g_6 H locs hg_6 hP hD hS => ?_)
          have hP : va_P (dC, dI) cl9 [(mx, .inr (4, [.int th, .long sd, .int nt, .ref ro, .ref pl, .ref vl, .int (nI f), .ref pa, .ref pr])), (pa, .inl (cL, 240, .inr (.inl g_6))), (pr, .inl (cL, 48, .inr (.inl p_3)))] H := hP
          have hD : va_D A [(mx, .inr (4, [.int th, .long sd, .int nt, .ref ro, .ref pl, .ref vl, .int (nI f), .ref pa, .ref pr])), (pa, .inl (cL, 240, .inr (.inl g_6))), (pr, .inl (cL, 48, .inr (.inl p_3)))] := hD
          have hg_6 : g_6 = mr_add 0 1 g_4 := hg_6.trans (ir_eq _).symm
          refine lv_iinc (v := (nI (i + 1 + 1))) (lv' := [(2, .int (nI (i + 1 + 1))), (0, .ref mx), (1, .int z)]) hx hb d_M_powerOf_77 hl (k := 2) rfl (by exact nI_1 (i + 1)) (by decide) rfl (fun ls hl => ?_)
          refine lv_goto (tgt := 29) hx hb d_M_powerOf_80 (by decide) ?_
          have e9 : pw_it f z g p9 (i + 1) = (g_6, p_3) := by show pw_st f z (nI (i + 1)) _ = _; rw [hg_6, hg_4, hp_3, hg_2]; exact Prod.ext ((if_neg hbz).trans (if_neg ho)) rfl
          exact ih (i + 1) (by omega) _ _ _ (by rw [e9]; exact hP) (by rw [e9]; exact hD) hS (lv_sub hl [1, 2, 0] rfl)
        · refine lv_aload_n hx hb d_M_powerOf_62 rfl (lv_at hl 0 rfl) ?_
          refine lv_iconst (v := 0) hx hb d_M_powerOf_63 (by decide) ?_
          refine lv_iconst (v := 1) hx hb d_M_powerOf_64 (by decide) ?_
          refine cs_callv (va_runV (As := [.int 0, .int 1]) (rest := []) ⟨hx, hb, hml, hown, ha⟩ (c_M_less l dC dI mx th sd nt ro pl vl f pa pr cL g_4 0 1 (by omega) (by omega) _) (cwV 2 ha g_M_M_less rfl rfl rfl (by decide +kernel) ⟨Nat.le_trans (Nat.le_of_ble_eq_true rfl) hRf, Nat.le_trans (Nat.le_of_ble_eq_true rfl) hRl⟩) (ct_preV ct_G0ok trivial hK hP hD hS hA [0, 1] rfl (by decide) [0] rfl 0 4 rfl rfl rfl) rfl rfl hl.1 rfl (lv_room (Nat.le_of_ble_eq_true rfl)) d_M_powerOf_65 ⟨hRc, hRs⟩) hP hD hS hA [0, 1] rfl (by decide) (fun _ => rfl) (fun g_7 H locs hg_7 hP hD hS => ?_)
          have hP : va_P (dC, dI) cl9 [(mx, .inr (4, [.int th, .long sd, .int nt, .ref ro, .ref pl, .ref vl, .int (nI f), .ref pa, .ref pr])), (pa, .inl (cL, 240, .inr (.inl g_7))), (pr, .inl (cL, 48, .inr (.inl p_3)))] H := hP
          have hD : va_D A [(mx, .inr (4, [.int th, .long sd, .int nt, .ref ro, .ref pl, .ref vl, .int (nI f), .ref pa, .ref pr])), (pa, .inl (cL, 240, .inr (.inl g_7))), (pr, .inl (cL, 48, .inr (.inl p_3)))] := hD
          have hg_7 : g_7 = mr_les 0 1 g_4 := hg_7.trans (ir_eq _).symm
          refine lv_goto (tgt := 77) hx hb d_M_powerOf_68 (by decide) ?_
          refine lv_iinc (v := (nI (i + 1 + 1))) (lv' := [(2, .int (nI (i + 1 + 1))), (0, .ref mx), (1, .int z)]) hx hb d_M_powerOf_77 hl (k := 2) rfl (by exact nI_1 (i + 1)) (by decide) rfl (fun ls hl => ?_)
          refine lv_goto (tgt := 29) hx hb d_M_powerOf_80 (by decide) ?_
          have e9 : pw_it f z g p9 (i + 1) = (g_7, p_3) := by show pw_st f z (nI (i + 1)) _ = _; rw [hg_7, hg_4, hp_3, hg_2]; exact Prod.ext ((if_neg hbz).trans (if_pos ho)) rfl
          exact ih (i + 1) (by omega) _ _ _ (by rw [e9]; exact hP) (by rw [e9]; exact hD) hS (lv_sub hl [1, 2, 0] rfl)
set_option maxHeartbeats 4000000 in
set_option maxRecDepth 100000 in
/-- six squares -/
theorem lp_M_powerOf6 {p : Program} {l : Launch} {e : Env} {R : Room} {s : State} {m : MethodId} {args : Array Value} {below : List Frame} {meth : Method} {c : Code} {Q : State → Prop} {A : Nat → Prop} {cells slots : Nat} {dC : Nat → ClassId} {dI : Nat → Nat → Nat} {mx : Nat} {th : Int32} {sd : Int64} {nt : Int32} {ro : Nat} {pl : Nat} {vl : Nat} {f : Nat} {pa : Nat} {pr : Nat} {cL : ClassId} {g : Nat → Int64} {p9 : Nat → Int64} (hF : ct_F p s m meth c b_M_powerOf none 3 w_M_powerOf y_M_powerOf args) (hA : ∀ q, s.heap.size ≤ q → A q) (hK : va_K (dC, dI) cl9 [(cL, .long)] s) (hRf : 1 ≤ R.frames) (hRl : 40 ≤ R.locals) (hRc : cells ≤ R.cells) (hRs : slots ≤ R.slots) (hf9 : f ≤ 24)
    (K : ∀ (H : Heap) (locs : List Loc) (ls : Array Slot), va_P (dC, dI) cl9 [(mx, .inr (4, [.int th, .long sd, .int nt, .ref ro, .ref pl, .ref vl, .int (nI f), .ref pa, .ref pr])), (pa, .inl (cL, 240, .inr (.inl ((pw_sq f (g, p9) 6).1)))), (pr, .inl (cL, 48, .inr (.inl ((pw_sq f (g, p9) 6).2))))] H → va_D A [(mx, .inr (4, [.int th, .long sd, .int nt, .ref ro, .ref pl, .ref vl, .int (nI f), .ref pa, .ref pr])), (pa, .inl (cL, 240, .inr (.inl ((pw_sq f (g, p9) 6).1)))), (pr, .inl (cL, 48, .inr (.inl ((pw_sq f (g, p9) 6).2))))] → va_S A s.heap H locs → lv_has ls 3 [(0, .ref mx), (2, .int (nI 6))] → W p l e R s m args below meth c H locs cells slots Q (F0 m 104 ls [])) :
    ∀ (n9 i : Nat), i + n9 = 6 → ∀ (H : Heap) (locs : List Loc) (ls : Array Slot), va_P (dC, dI) cl9 [(mx, .inr (4, [.int th, .long sd, .int nt, .ref ro, .ref pl, .ref vl, .int (nI f), .ref pa, .ref pr])), (pa, .inl (cL, 240, .inr (.inl ((pw_sq f (g, p9) i).1)))), (pr, .inl (cL, 48, .inr (.inl ((pw_sq f (g, p9) i).2))))] H → va_D A [(mx, .inr (4, [.int th, .long sd, .int nt, .ref ro, .ref pl, .ref vl, .int (nI f), .ref pa, .ref pr])), (pa, .inl (cL, 240, .inr (.inl ((pw_sq f (g, p9) i).1)))), (pr, .inl (cL, 48, .inr (.inl ((pw_sq f (g, p9) i).2))))] → va_S A s.heap H locs → lv_has ls 3 [(0, .ref mx), (2, .int (nI i))] → W p l e R s m args below meth c H locs cells slots Q (F0 m 85 ls []) := by
  obtain ⟨hx, hb, hr, hml, hts, hown, hlocks, hnm⟩ := id hF
  have hown : s.vm.findClass R_M = some m.cls := hown
  have ha : ∀ w ∈ al_M, w.before args s = true := fun w h => hts w (List.mem_cons_of_mem _ h)
  intro n9
  induction n9 with
  | zero =>
    intro i hi H locs ls hP hD hS hl
    obtain rfl : 6 = i := by omega
    refine lv_iload_n hx hb d_M_powerOf_85 rfl (lv_at hl 1 rfl) ?_
    refine lv_bipush (v := 6) hx hb d_M_powerOf_86 (by decide) ?_
    refine lv_icmp_ge (tgt := 104) hx hb d_M_powerOf_88 (by decide) (fun hc => ?_) (fun hc => ?_)
    · exact K _ _ _ hP hD hS (lv_sub hl [0, 1] rfl)
    · exact absurd (show nI 6 ≤ nI 6 from nI_le (by omega) (by omega)) hc
  | succ n9 ih =>
    intro i hi H locs ls hP hD hS hl
    have hlt : i < 6 := by omega
    refine lv_iload_n hx hb d_M_powerOf_85 rfl (lv_at hl 1 rfl) ?_
    refine lv_bipush (v := 6) hx hb d_M_powerOf_86 (by decide) ?_
    refine lv_icmp_ge (tgt := 104) hx hb d_M_powerOf_88 (by decide) (fun hc => ?_) (fun hc => ?_)
    · exact absurd (show nI 6 ≤ nI i from hc) (nI_ge (by omega) (by omega))
    · refine lv_aload_n hx hb d_M_powerOf_91 rfl (lv_at hl 0 rfl) ?_
      refine lv_iconst (v := 0) hx hb d_M_powerOf_92 (by decide) ?_
      refine lv_iconst (v := 0) hx hb d_M_powerOf_93 (by decide) ?_
      refine lv_iconst (v := 0) hx hb d_M_powerOf_94 (by decide) ?_
      refine cs_callv (va_runV (As := [.int 0, .int 0, .int 0]) (rest := []) ⟨hx, hb, hml, hown, ha⟩ (c_M_multiply l dC dI mx th sd nt ro pl vl f pa pr cL ((pw_sq f (g, p9) i).1) ((pw_sq f (g, p9) i).2) 0 0 0 (by omega) (by omega) (by omega) hf9 _) (cwV 3 ha g_M_M_multiply rfl rfl rfl (by decide +kernel) ⟨Nat.le_trans (Nat.le_of_ble_eq_true rfl) hRf, Nat.le_trans (Nat.le_of_ble_eq_true rfl) hRl⟩) (ct_preV ct_G0ok trivial hK hP hD hS hA [0, 1, 2] rfl (by decide) [0] rfl 0 4 rfl rfl rfl) rfl rfl hl.1 rfl (lv_room (Nat.le_of_ble_eq_true rfl)) d_M_powerOf_95 ⟨hRc, hRs⟩) hP hD hS hA [0, 1, 2] rfl (by decide) (fun _ => rfl) (fun z_8 H locs hz_8 hP hD hS => ?_)
      have hP : va_P (dC, dI) cl9 [(mx, .inr (4, [.int th, .long sd, .int nt, .ref ro, .ref pl, .ref vl, .int (nI f), .ref pa, .ref pr])), (pa, .inl (cL, 240, .inr (.inl z_8.1))), (pr, .inl (cL, 48, .inr (.inl z_8.2)))] H := hP
      have hD : va_D A [(mx, .inr (4, [.int th, .long sd, .int nt, .ref ro, .ref pl, .ref vl, .int (nI f), .ref pa, .ref pr])), (pa, .inl (cL, 240, .inr (.inl z_8.1))), (pr, .inl (cL, 48, .inr (.inl z_8.2)))] := hD
      obtain ⟨g_9, p_10⟩ := z_8
      obtain ⟨hg_9, hp_10⟩ := hz_8
      have hg_9 : g_9 = mr_mul f 0 0 0 ((pw_sq f (g, p9) i).1) ((pw_sq f (g, p9) i).2) := hg_9
      have hp_10 : p_10 = mr_mo 0 0 ((pw_sq f (g, p9) i).1) ((pw_sq f (g, p9) i).2) := hp_10
      have hP : va_P (dC, dI) cl9 [(mx, .inr (4, [.int th, .long sd, .int nt, .ref ro, .ref pl, .ref vl, .int (nI f), .ref pa, .ref pr])), (pa, .inl (cL, 240, .inr (.inl g_9))), (pr, .inl (cL, 48, .inr (.inl p_10)))] H := hP
      have hD : va_D A [(mx, .inr (4, [.int th, .long sd, .int nt, .ref ro, .ref pl, .ref vl, .int (nI f), .ref pa, .ref pr])), (pa, .inl (cL, 240, .inr (.inl g_9))), (pr, .inl (cL, 48, .inr (.inl p_10)))] := hD
      refine lv_iinc (v := (nI (i + 1))) (lv' := [(2, .int (nI (i + 1))), (0, .ref mx)]) hx hb d_M_powerOf_98 hl (k := 1) rfl (by exact nI_1 i) (by decide) rfl (fun ls hl => ?_)
      refine lv_goto (tgt := 85) hx hb d_M_powerOf_101 (by decide) ?_
      have e9 : pw_sq f (g, p9) (i + 1) = (g_9, p_10) := by rw [hp_10, hg_9]; rfl
      exact ih (i + 1) (by omega) _ _ _ (by rw [e9]; exact hP) (by rw [e9]; exact hD) hS (lv_sub hl [1, 0] rfl)
set_option maxHeartbeats 4000000 in
set_option maxRecDepth 100000 in
/-- SUM becomes e to the X, or to the -X -/
theorem c_M_powerOf (l : Launch) (dC : Nat → ClassId) (dI : Nat → Nat → Nat) (mx : Nat) (th : Int32) (sd : Int64) (nt : Int32) (ro : Nat) (pl : Nat) (vl : Nat) (f : Nat) (pa : Nat) (pr : Nat) (cL : ClassId) (g : Nat → Int64) (p9 : Nat → Int64) (z : Int32) (hf9 : f ≤ 24) (kk : Nat) (hkk : kk < 1000) (hk : ∀ i, i < kk → md_no 1 (pw_it f z g p9 i).1 24 = 0) (hz : ¬ md_no 1 (pw_it f z g p9 kk).1 24 = 0) (sz : Nat) : ct_V l y_M_powerOf w_M_powerOf { frames := 1, cells := 0, slots := 0, locals := 40 } (dC, dI) cl9 [(cL, .long)] ct_G0 [.ref mx, .int z] [(mx, .inr (4, [.int th, .long sd, .int nt, .ref ro, .ref pl, .ref vl, .int (nI f), .ref pa, .ref pr])), (pa, .inl (cL, 240, .inr (.inl g))), (pr, .inl (cL, 48, .inr (.inl p9)))] sz (S := S2) (fun u : S2 => u = pw_sq f (pw_it f z g p9 kk) 6) (fun _ : S2 => [(cL, .long)]) (fun u : S2 => [(mx, .inr (4, [.int th, .long sd, .int nt, .ref ro, .ref pl, .ref vl, .int (nI f), .ref pa, .ref pr])), (pa, .inl (cL, 240, .inr (.inl u.1))), (pr, .inl (cL, 48, .inr (.inl u.2)))]) 0 0 := by
  refine ct_of (Qf := fun A => va_Qv (fun u : S2 => u = pw_sq f (pw_it f z g p9 kk) 6) (ct_B (S := S2) (dC, dI) cl9 (fun _ : S2 => [(cL, .long)]) A (fun u : S2 => [(mx, .inr (4, [.int th, .long sd, .int nt, .ref ro, .ref pl, .ref vl, .int (nI f), .ref pa, .ref pr])), (pa, .inl (cL, 240, .inr (.inl u.1))), (pr, .inl (cL, 48, .inr (.inl u.2)))])) A) (cc := b_M_powerOf) (maxL := 3) (ret := none) (by decide) rfl (Nat.le_of_ble_eq_true rfl) ?_
  intro p e s m below meth c A ls hF hA hP hK hD hG hS hl
  obtain ⟨hx, hb, hr, hml, hts, hown, hlocks, hnm⟩ := id hF
  have hown : s.vm.findClass R_M = some m.cls := hown
  have ha : ∀ w ∈ al_M, w.before [.ref mx, .int z].toArray s = true := fun w h => hts w (List.mem_cons_of_mem _ h)
  have hl : lv_has ls 3 [(0, .ref mx), (1, .int z)] := hl
  refine lv_aload_n hx hb d_M_powerOf_0 rfl (lv_at hl 0 rfl) ?_
  refine lv_iconst (v := 2) hx hb d_M_powerOf_1 (by decide) ?_
  refine lv_bipush (v := 8) hx hb d_M_powerOf_2 (by decide) ?_
  refine cs_callv (va_runV (As := [.int 2, .int 8]) (rest := []) ⟨hx, hb, hml, hown, ha⟩ (c_M_copy l dC dI mx th sd nt ro pl vl f pa pr cL g 2 8 (by omega) (by omega) _) (cwV 2 ha g_M_M_copy rfl rfl rfl (by decide +kernel) ⟨Nat.le_of_ble_eq_true rfl, Nat.le_of_ble_eq_true rfl⟩) (ct_preV ct_G0ok trivial hK hP hD hS hA [0, 1] rfl (by decide) [0] rfl 0 4 rfl rfl rfl) rfl rfl hl.1 rfl (lv_room (Nat.le_of_ble_eq_true rfl)) d_M_powerOf_4 ⟨Nat.le_of_ble_eq_true rfl, Nat.le_of_ble_eq_true rfl⟩) hP hD hS hA [0, 1] rfl (by decide) (fun _ => rfl) (fun g_11 H locs hg_11 hP hD hS => ?_)
  have hP : va_P (dC, dI) cl9 [(mx, .inr (4, [.int th, .long sd, .int nt, .ref ro, .ref pl, .ref vl, .int (nI f), .ref pa, .ref pr])), (pa, .inl (cL, 240, .inr (.inl g_11))), (pr, .inl (cL, 48, .inr (.inl p9)))] H := hP
  have hD : va_D A [(mx, .inr (4, [.int th, .long sd, .int nt, .ref ro, .ref pl, .ref vl, .int (nI f), .ref pa, .ref pr])), (pa, .inl (cL, 240, .inr (.inl g_11))), (pr, .inl (cL, 48, .inr (.inl p9)))] := hD
  have hg_11 : g_11 = mr_cp 2 8 g := hg_11.trans (ir_eq _).symm
  refine lv_aload_n hx hb d_M_powerOf_7 rfl (lv_at hl 0 rfl) ?_
  refine lv_iconst (v := 2) hx hb d_M_powerOf_8 (by decide) ?_
  refine lv_ldc2 (v := 64) hx hb hown (ha _ wm_M_48) d_M_powerOf_9 ?_
  refine cs_callv (va_runV (As := [.int 2, .long 64]) (rest := []) ⟨hx, hb, hml, hown, ha⟩ (c_M_by l dC dI mx th sd nt ro pl vl f pa pr cL g_11 2 64 (by omega) (by decide) _) (cwV 2 ha g_M_M_by rfl rfl rfl (by decide +kernel) ⟨Nat.le_of_ble_eq_true rfl, Nat.le_of_ble_eq_true rfl⟩) (ct_preV ct_G0ok trivial hK hP hD hS hA [0, 1] rfl (by decide) [0] rfl 0 4 rfl rfl rfl) rfl rfl hl.1 rfl (lv_room (Nat.le_of_ble_eq_true rfl)) d_M_powerOf_12 ⟨Nat.le_of_ble_eq_true rfl, Nat.le_of_ble_eq_true rfl⟩) hP hD hS hA [0, 1] rfl (by decide) (fun _ => rfl) (fun g_12 H locs hg_12 hP hD hS => ?_)
  have hP : va_P (dC, dI) cl9 [(mx, .inr (4, [.int th, .long sd, .int nt, .ref ro, .ref pl, .ref vl, .int (nI f), .ref pa, .ref pr])), (pa, .inl (cL, 240, .inr (.inl g_12))), (pr, .inl (cL, 48, .inr (.inl p9)))] H := hP
  have hD : va_D A [(mx, .inr (4, [.int th, .long sd, .int nt, .ref ro, .ref pl, .ref vl, .int (nI f), .ref pa, .ref pr])), (pa, .inl (cL, 240, .inr (.inl g_12))), (pr, .inl (cL, 48, .inr (.inl p9)))] := hD
  have hg_12 : g_12 = mr_by 2 64 g_11 := hg_12.trans (ir_eq _).symm
  refine lv_aload_n hx hb d_M_powerOf_15 rfl (lv_at hl 0 rfl) ?_
  refine lv_iconst (v := 0) hx hb d_M_powerOf_16 (by decide) ?_
  refine lv_lconst (v := 1) hx hb d_M_powerOf_17 (by decide) ?_
  refine cs_callv (va_runV (As := [.int 0, .long 1]) (rest := []) ⟨hx, hb, hml, hown, ha⟩ (c_M_whole l dC dI mx th sd nt ro pl vl f pa pr cL g_12 0 1 (by omega) hf9 _) (cwV 2 ha g_M_M_whole rfl rfl rfl (by decide +kernel) ⟨Nat.le_of_ble_eq_true rfl, Nat.le_of_ble_eq_true rfl⟩) (ct_preV ct_G0ok trivial hK hP hD hS hA [0, 1] rfl (by decide) [0] rfl 0 4 rfl rfl rfl) rfl rfl hl.1 rfl (lv_room (Nat.le_of_ble_eq_true rfl)) d_M_powerOf_18 ⟨Nat.le_of_ble_eq_true rfl, Nat.le_of_ble_eq_true rfl⟩) hP hD hS hA [0, 1] rfl (by decide) (fun _ => rfl) (fun g_13 H locs hg_13 hP hD hS => ?_)
  have hP : va_P (dC, dI) cl9 [(mx, .inr (4, [.int th, .long sd, .int nt, .ref ro, .ref pl, .ref vl, .int (nI f), .ref pa, .ref pr])), (pa, .inl (cL, 240, .inr (.inl g_13))), (pr, .inl (cL, 48, .inr (.inl p9)))] H := hP
  have hD : va_D A [(mx, .inr (4, [.int th, .long sd, .int nt, .ref ro, .ref pl, .ref vl, .int (nI f), .ref pa, .ref pr])), (pa, .inl (cL, 240, .inr (.inl g_13))), (pr, .inl (cL, 48, .inr (.inl p9)))] := hD
  have hg_13 : g_13 = mr_wh f 0 1 g_12 := hg_13.trans (ir_eq _).symm
  refine lv_aload_n hx hb d_M_powerOf_21 rfl (lv_at hl 0 rfl) ?_
  refine lv_iconst (v := 1) hx hb d_M_powerOf_22 (by decide) ?_
  refine lv_lconst (v := 1) hx hb d_M_powerOf_23 (by decide) ?_
  refine cs_callv (va_runV (As := [.int 1, .long 1]) (rest := []) ⟨hx, hb, hml, hown, ha⟩ (c_M_whole l dC dI mx th sd nt ro pl vl f pa pr cL g_13 1 1 (by omega) hf9 _) (cwV 2 ha g_M_M_whole rfl rfl rfl (by decide +kernel) ⟨Nat.le_of_ble_eq_true rfl, Nat.le_of_ble_eq_true rfl⟩) (ct_preV ct_G0ok trivial hK hP hD hS hA [0, 1] rfl (by decide) [0] rfl 0 4 rfl rfl rfl) rfl rfl hl.1 rfl (lv_room (Nat.le_of_ble_eq_true rfl)) d_M_powerOf_24 ⟨Nat.le_of_ble_eq_true rfl, Nat.le_of_ble_eq_true rfl⟩) hP hD hS hA [0, 1] rfl (by decide) (fun _ => rfl) (fun g_14 H locs hg_14 hP hD hS => ?_)
  have hP : va_P (dC, dI) cl9 [(mx, .inr (4, [.int th, .long sd, .int nt, .ref ro, .ref pl, .ref vl, .int (nI f), .ref pa, .ref pr])), (pa, .inl (cL, 240, .inr (.inl g_14))), (pr, .inl (cL, 48, .inr (.inl p9)))] H := hP
  have hD : va_D A [(mx, .inr (4, [.int th, .long sd, .int nt, .ref ro, .ref pl, .ref vl, .int (nI f), .ref pa, .ref pr])), (pa, .inl (cL, 240, .inr (.inl g_14))), (pr, .inl (cL, 48, .inr (.inl p9)))] := hD
  have hg_14 : g_14 = mr_wh f 1 1 g_13 := hg_14.trans (ir_eq _).symm
  refine lv_iconst (v := 1) hx hb d_M_powerOf_27 (by decide) ?_
  refine lv_istore_n (lv' := [(2, .int 1), (0, .ref mx), (1, .int z)]) hx hb d_M_powerOf_28 rfl hl (by decide) rfl (fun ls hl => ?_)
  have e9 : pw_it f z g p9 0 = (g_14, p9) := by rw [hg_14, hg_13, hg_12, hg_11]; rfl
  refine lp_M_powerOf (mx := mx) (th := th) (sd := sd) (nt := nt) (ro := ro) (pl := pl) (vl := vl) (f := f) (pa := pa) (pr := pr) (cL := cL) (g := g) (p9 := p9) (z := z) hF hA hK (Nat.le_of_ble_eq_true rfl) (Nat.le_of_ble_eq_true rfl) (Nat.le_of_ble_eq_true rfl) (Nat.le_of_ble_eq_true rfl) hf9 hkk hk hz (fun H locs ls hP hD hS hl => ?_) kk 0 (by omega) _ _ _ (by rw [e9]; exact hP) (by rw [e9]; exact hD) hS (lv_sub hl [1, 2, 0] rfl)
  refine lv_iconst (v := 0) hx hb d_M_powerOf_83 (by decide) ?_
  refine lv_istore_n (lv' := [(2, .int 0), (0, .ref mx), (1, .int z)]) hx hb d_M_powerOf_84 rfl hl (by decide) rfl (fun ls hl => ?_)
  refine lp_M_powerOf6 (mx := mx) (th := th) (sd := sd) (nt := nt) (ro := ro) (pl := pl) (vl := vl) (f := f) (pa := pa) (pr := pr) (cL := cL) (g := (pw_it f z g p9 kk).1) (p9 := (pw_it f z g p9 kk).2) hF hA hK (Nat.le_of_ble_eq_true rfl) (Nat.le_of_ble_eq_true rfl) (Nat.le_of_ble_eq_true rfl) (Nat.le_of_ble_eq_true rfl) hf9 (fun H locs ls hP hD hS hl => ?_) 6 0 (by omega) _ _ _ hP hD hS (lv_sub hl [1, 0] rfl)
  exact ct_vret hF d_M_powerOf_104 (pw_sq f (pw_it f z g p9 kk) 6) rfl (hP.sub [0, 1, 2] rfl) (hD.sub [0, 1, 2] (by decide) rfl) hK hS
