def hf_r (f : Nat) (g : Nat → Int64) (k1 k2 : Nat) : Nat → Int64 := mr_by 4 2 (mr_cp 4 7 (mr_les 7 4 (ao_it f 4 239 4 (ao_it f 7 5 16 g k1) k2)))
set_option maxHeartbeats 4000000 in
set_option maxRecDepth 100000 in
/-- PI and HALF -/
theorem c_M_half (l : Launch) (dC : Nat → ClassId) (dI : Nat → Nat → Nat) (mx : Nat) (th : Int32) (sd : Int64) (nt : Int32) (ro : Nat) (pl : Nat) (vl : Nat) (f : Nat) (pa : Nat) (pr : Nat) (cL : ClassId) (g : Nat → Int64) (hf9 : f ≤ 24) (k1 : Nat) (hkk1 : k1 < 1000) (hk1 : ∀ i, i < k1 → md_no 1 (ao_it f 7 5 16 g i) 24 = 0) (hz1 : ¬ md_no 1 (ao_it f 7 5 16 g k1) 24 = 0) (k2 : Nat) (hkk2 : k2 < 1000) (hk2 : ∀ i, i < k2 → md_no 1 (ao_it f 4 239 4 (ao_it f 7 5 16 g k1) i) 24 = 0) (hz2 : ¬ md_no 1 (ao_it f 4 239 4 (ao_it f 7 5 16 g k1) k2) 24 = 0) (sz : Nat) : ct_V l y_M_half w_M_half { frames := 3, cells := 0, slots := 0, locals := 110 } (dC, dI) cl9 [(cL, .long)] ct_G0 [.ref mx] [(mx, .inr (4, [.int th, .long sd, .int nt, .ref ro, .ref pl, .ref vl, .int (nI f), .ref pa, .ref pr])), (pa, .inl (cL, 240, .inr (.inl g)))] sz (S := Nat → Int64) (fun u : Nat → Int64 => u = hf_r f g k1 k2) (fun _ : Nat → Int64 => [(cL, .long)]) (fun u : Nat → Int64 => [(mx, .inr (4, [.int th, .long sd, .int nt, .ref ro, .ref pl, .ref vl, .int (nI f), .ref pa, .ref pr])), (pa, .inl (cL, 240, .inr (.inl u)))]) 0 0 := by
  refine ct_of (Qf := fun A => va_Qv (fun u : Nat → Int64 => u = hf_r f g k1 k2) (ct_B (S := Nat → Int64) (dC, dI) cl9 (fun _ : Nat → Int64 => [(cL, .long)]) A (fun u : Nat → Int64 => [(mx, .inr (4, [.int th, .long sd, .int nt, .ref ro, .ref pl, .ref vl, .int (nI f), .ref pa, .ref pr])), (pa, .inl (cL, 240, .inr (.inl u)))])) A) (cc := b_M_half) (maxL := 1) (ret := none) (by decide) rfl (Nat.le_of_ble_eq_true rfl) ?_
  intro p e s m below meth c A ls hF hA hP hK hD hG hS hl
  obtain ⟨hx, hb, hr, hml, hts, hown, hlocks, hnm⟩ := id hF
  have hown : s.vm.findClass R_M = some m.cls := hown
  have ha : ∀ w ∈ al_M, w.before [.ref mx].toArray s = true := fun w h => hts w (List.mem_cons_of_mem _ h)
  have hl : lv_has ls 1 [(0, .ref mx)] := hl
  refine lv_aload_n hx hb d_M_half_0 rfl (lv_at hl 0 rfl) ?_
  refine lv_bipush (v := 7) hx hb d_M_half_1 (by decide) ?_
  refine lv_ldc2 (v := 5) hx hb hown (ha _ wm_M_98) d_M_half_3 ?_
  refine lv_ldc2 (v := 16) hx hb hown (ha _ wm_M_99) d_M_half_6 ?_
  refine cs_callv (va_runV (As := [.int 7, .long 5, .long 16]) (rest := []) ⟨hx, hb, hml, hown, ha⟩ (c_M_angleOfOne l dC dI mx th sd nt ro pl vl f pa pr cL g 7 5 16 (by omega) hf9 (by decide) (by decide) k1 hkk1 hk1 hz1 _) (cwV 3 ha g_M_M_angleOfOne rfl rfl rfl (by decide +kernel) ⟨Nat.le_of_ble_eq_true rfl, Nat.le_of_ble_eq_true rfl⟩) (ct_preV ct_G0ok trivial hK hP hD hS hA [0, 1] rfl (by decide) [0] rfl 0 4 rfl rfl rfl) rfl rfl hl.1 rfl (lv_room (Nat.le_of_ble_eq_true rfl)) d_M_half_9 ⟨Nat.le_of_ble_eq_true rfl, Nat.le_of_ble_eq_true rfl⟩) hP hD hS hA [0, 1] rfl (by decide) (fun _ => rfl) (fun g_1 H locs hg_1 hP hD hS => ?_)
  have hP : va_P (dC, dI) cl9 [(mx, .inr (4, [.int th, .long sd, .int nt, .ref ro, .ref pl, .ref vl, .int (nI f), .ref pa, .ref pr])), (pa, .inl (cL, 240, .inr (.inl g_1)))] H := hP
  have hD : va_D A [(mx, .inr (4, [.int th, .long sd, .int nt, .ref ro, .ref pl, .ref vl, .int (nI f), .ref pa, .ref pr])), (pa, .inl (cL, 240, .inr (.inl g_1)))] := hD
  have hg_1 : g_1 = ao_it f 7 5 16 g k1 := hg_1
  subst hg_1
  have hP : va_P (dC, dI) cl9 [(mx, .inr (4, [.int th, .long sd, .int nt, .ref ro, .ref pl, .ref vl, .int (nI f), .ref pa, .ref pr])), (pa, .inl (cL, 240, .inr (.inl (ao_it f 7 5 16 g k1))))] H := hP
  have hD : va_D A [(mx, .inr (4, [.int th, .long sd, .int nt, .ref ro, .ref pl, .ref vl, .int (nI f), .ref pa, .ref pr])), (pa, .inl (cL, 240, .inr (.inl (ao_it f 7 5 16 g k1))))] := hD
  refine lv_aload_n hx hb d_M_half_12 rfl (lv_at hl 0 rfl) ?_
  refine lv_iconst (v := 4) hx hb d_M_half_13 (by decide) ?_
  refine lv_ldc2 (v := 239) hx hb hown (ha _ wm_M_103) d_M_half_14 ?_
  refine lv_ldc2 (v := 4) hx hb hown (ha _ wm_M_104) d_M_half_17 ?_
  refine cs_callv (va_runV (As := [.int 4, .long 239, .long 4]) (rest := []) ⟨hx, hb, hml, hown, ha⟩ (c_M_angleOfOne l dC dI mx th sd nt ro pl vl f pa pr cL (ao_it f 7 5 16 g k1) 4 239 4 (by omega) hf9 (by decide) (by decide) k2 hkk2 hk2 hz2 _) (cwV 3 ha g_M_M_angleOfOne rfl rfl rfl (by decide +kernel) ⟨Nat.le_of_ble_eq_true rfl, Nat.le_of_ble_eq_true rfl⟩) (ct_preV ct_G0ok trivial hK hP hD hS hA [0, 1] rfl (by decide) [0] rfl 0 4 rfl rfl rfl) rfl rfl hl.1 rfl (lv_room (Nat.le_of_ble_eq_true rfl)) d_M_half_20 ⟨Nat.le_of_ble_eq_true rfl, Nat.le_of_ble_eq_true rfl⟩) hP hD hS hA [0, 1] rfl (by decide) (fun _ => rfl) (fun g_2 H locs hg_2 hP hD hS => ?_)
  have hP : va_P (dC, dI) cl9 [(mx, .inr (4, [.int th, .long sd, .int nt, .ref ro, .ref pl, .ref vl, .int (nI f), .ref pa, .ref pr])), (pa, .inl (cL, 240, .inr (.inl g_2)))] H := hP
  have hD : va_D A [(mx, .inr (4, [.int th, .long sd, .int nt, .ref ro, .ref pl, .ref vl, .int (nI f), .ref pa, .ref pr])), (pa, .inl (cL, 240, .inr (.inl g_2)))] := hD
  have hg_2 : g_2 = ao_it f 4 239 4 (ao_it f 7 5 16 g k1) k2 := hg_2
  refine lv_aload_n hx hb d_M_half_23 rfl (lv_at hl 0 rfl) ?_
  refine lv_bipush (v := 7) hx hb d_M_half_24 (by decide) ?_
  refine lv_iconst (v := 4) hx hb d_M_half_26 (by decide) ?_
  refine cs_callv (va_runV (As := [.int 7, .int 4]) (rest := []) ⟨hx, hb, hml, hown, ha⟩ (c_M_less l dC dI mx th sd nt ro pl vl f pa pr cL g_2 7 4 (by omega) (by omega) _) (cwV 2 ha g_M_M_less rfl rfl rfl (by decide +kernel) ⟨Nat.le_of_ble_eq_true rfl, Nat.le_of_ble_eq_true rfl⟩) (ct_preV ct_G0ok trivial hK hP hD hS hA [0, 1] rfl (by decide) [0] rfl 0 4 rfl rfl rfl) rfl rfl hl.1 rfl (lv_room (Nat.le_of_ble_eq_true rfl)) d_M_half_27 ⟨Nat.le_of_ble_eq_true rfl, Nat.le_of_ble_eq_true rfl⟩) hP hD hS hA [0, 1] rfl (by decide) (fun _ => rfl) (fun g_3 H locs hg_3 hP hD hS => ?_)
  have hP : va_P (dC, dI) cl9 [(mx, .inr (4, [.int th, .long sd, .int nt, .ref ro, .ref pl, .ref vl, .int (nI f), .ref pa, .ref pr])), (pa, .inl (cL, 240, .inr (.inl g_3)))] H := hP
  have hD : va_D A [(mx, .inr (4, [.int th, .long sd, .int nt, .ref ro, .ref pl, .ref vl, .int (nI f), .ref pa, .ref pr])), (pa, .inl (cL, 240, .inr (.inl g_3)))] := hD
  have hg_3 : g_3 = mr_les 7 4 g_2 := hg_3.trans (ir_eq _).symm
  refine lv_aload_n hx hb d_M_half_30 rfl (lv_at hl 0 rfl) ?_
  refine lv_iconst (v := 4) hx hb d_M_half_31 (by decide) ?_
  refine lv_bipush (v := 7) hx hb d_M_half_32 (by decide) ?_
  refine cs_callv (va_runV (As := [.int 4, .int 7]) (rest := []) ⟨hx, hb, hml, hown, ha⟩ (c_M_copy l dC dI mx th sd nt ro pl vl f pa pr cL g_3 4 7 (by omega) (by omega) _) (cwV 2 ha g_M_M_copy rfl rfl rfl (by decide +kernel) ⟨Nat.le_of_ble_eq_true rfl, Nat.le_of_ble_eq_true rfl⟩) (ct_preV ct_G0ok trivial hK hP hD hS hA [0, 1] rfl (by decide) [0] rfl 0 4 rfl rfl rfl) rfl rfl hl.1 rfl (lv_room (Nat.le_of_ble_eq_true rfl)) d_M_half_34 ⟨Nat.le_of_ble_eq_true rfl, Nat.le_of_ble_eq_true rfl⟩) hP hD hS hA [0, 1] rfl (by decide) (fun _ => rfl) (fun g_4 H locs hg_4 hP hD hS => ?_)
  have hP : va_P (dC, dI) cl9 [(mx, .inr (4, [.int th, .long sd, .int nt, .ref ro, .ref pl, .ref vl, .int (nI f), .ref pa, .ref pr])), (pa, .inl (cL, 240, .inr (.inl g_4)))] H := hP
  have hD : va_D A [(mx, .inr (4, [.int th, .long sd, .int nt, .ref ro, .ref pl, .ref vl, .int (nI f), .ref pa, .ref pr])), (pa, .inl (cL, 240, .inr (.inl g_4)))] := hD
  have hg_4 : g_4 = mr_cp 4 7 g_3 := hg_4.trans (ir_eq _).symm
  refine lv_aload_n hx hb d_M_half_37 rfl (lv_at hl 0 rfl) ?_
  refine lv_iconst (v := 4) hx hb d_M_half_38 (by decide) ?_
  refine lv_ldc2 (v := 2) hx hb hown (ha _ wm_M_82) d_M_half_39 ?_
  refine cs_callv (va_runV (As := [.int 4, .long 2]) (rest := []) ⟨hx, hb, hml, hown, ha⟩ (c_M_by l dC dI mx th sd nt ro pl vl f pa pr cL g_4 4 2 (by omega) (by decide) _) (cwV 2 ha g_M_M_by rfl rfl rfl (by decide +kernel) ⟨Nat.le_of_ble_eq_true rfl, Nat.le_of_ble_eq_true rfl⟩) (ct_preV ct_G0ok trivial hK hP hD hS hA [0, 1] rfl (by decide) [0] rfl 0 4 rfl rfl rfl) rfl rfl hl.1 rfl (lv_room (Nat.le_of_ble_eq_true rfl)) d_M_half_42 ⟨Nat.le_of_ble_eq_true rfl, Nat.le_of_ble_eq_true rfl⟩) hP hD hS hA [0, 1] rfl (by decide) (fun _ => rfl) (fun g_5 H locs hg_5 hP hD hS => ?_)
  have hP : va_P (dC, dI) cl9 [(mx, .inr (4, [.int th, .long sd, .int nt, .ref ro, .ref pl, .ref vl, .int (nI f), .ref pa, .ref pr])), (pa, .inl (cL, 240, .inr (.inl g_5)))] H := hP
  have hD : va_D A [(mx, .inr (4, [.int th, .long sd, .int nt, .ref ro, .ref pl, .ref vl, .int (nI f), .ref pa, .ref pr])), (pa, .inl (cL, 240, .inr (.inl g_5)))] := hD
  have hg_5 : g_5 = mr_by 4 2 g_4 := hg_5.trans (ir_eq _).symm
  exact ct_vret hF d_M_half_45 g_5 (by rw [hg_5, hg_4, hg_3, hg_2]; rfl) (hP.sub [0, 1] rfl) (hD.sub [0, 1] (by decide) rfl) hK hS
set_option maxHeartbeats 4000000 in
set_option maxRecDepth 100000 in
/-- quarter's series -/
theorem lp_M_quarter {p : Program} {l : Launch} {e : Env} {R : Room} {s : State} {m : MethodId} {args : Array Value} {below : List Frame} {meth : Method} {c : Code} {Q : State → Prop} {A : Nat → Prop} {cells slots : Nat} {dC : Nat → ClassId} {dI : Nat → Nat → Nat} {mx : Nat} {th : Int32} {sd : Int64} {nt : Int32} {ro : Nat} {pl : Nat} {vl : Nat} {f : Nat} {pa : Nat} {pr : Nat} {cL : ClassId} {g : Nat → Int64} {p9 : Nat → Int64} {z : Int32} {kk : Nat} (hF : ct_F p s m meth c b_M_quarter none 3 w_M_quarter y_M_quarter args) (hA : ∀ q, s.heap.size ≤ q → A q) (hK : va_K (dC, dI) cl9 [(cL, .long)] s) (hRf : 2 ≤ R.frames) (hRl : 80 ≤ R.locals) (hRc : cells ≤ R.cells) (hRs : slots ≤ R.slots) (hf9 : f ≤ 24) (hkk : kk < 1000) (hk : ∀ i, i < kk → md_no 1 (qu_it f z g p9 i).1 24 = 0) (hz : ¬ md_no 1 (qu_it f z g p9 kk).1 24 = 0)
    (K : ∀ (H : Heap) (locs : List Loc) (ls : Array Slot), va_P (dC, dI) cl9 [(mx, .inr (4, [.int th, .long sd, .int nt, .ref ro, .ref pl, .ref vl, .int (nI f), .ref pa, .ref pr])), (pa, .inl (cL, 240, .inr (.inl ((qu_it f z g p9 kk).1)))), (pr, .inl (cL, 48, .inr (.inl ((qu_it f z g p9 kk).2))))] H → va_D A [(mx, .inr (4, [.int th, .long sd, .int nt, .ref ro, .ref pl, .ref vl, .int (nI f), .ref pa, .ref pr])), (pa, .inl (cL, 240, .inr (.inl ((qu_it f z g p9 kk).1)))), (pr, .inl (cL, 48, .inr (.inl ((qu_it f z g p9 kk).2))))] → va_S A s.heap H locs → lv_has ls 3 [(0, .ref mx), (1, .int z), (2, .int (nI (qu_n z + 2 * kk)))] → W p l e R s m args below meth c H locs cells slots Q (F0 m 110 ls [])) :
    ∀ (n9 i : Nat), i + n9 = kk → ∀ (H : Heap) (locs : List Loc) (ls : Array Slot), va_P (dC, dI) cl9 [(mx, .inr (4, [.int th, .long sd, .int nt, .ref ro, .ref pl, .ref vl, .int (nI f), .ref pa, .ref pr])), (pa, .inl (cL, 240, .inr (.inl ((qu_it f z g p9 i).1)))), (pr, .inl (cL, 48, .inr (.inl ((qu_it f z g p9 i).2))))] H → va_D A [(mx, .inr (4, [.int th, .long sd, .int nt, .ref ro, .ref pl, .ref vl, .int (nI f), .ref pa, .ref pr])), (pa, .inl (cL, 240, .inr (.inl ((qu_it f z g p9 i).1)))), (pr, .inl (cL, 48, .inr (.inl ((qu_it f z g p9 i).2))))] → va_S A s.heap H locs → lv_has ls 3 [(0, .ref mx), (1, .int z), (2, .int (nI (qu_n z + 2 * i)))] → W p l e R s m args below meth c H locs cells slots Q (F0 m 45 ls []) := by
  obtain ⟨hx, hb, hr, hml, hts, hown, hlocks, hnm⟩ := id hF
  have hown : s.vm.findClass R_M = some m.cls := hown
  have ha : ∀ w ∈ al_M, w.before args s = true := fun w h => hts w (List.mem_cons_of_mem _ h)
  have hqn : 1 ≤ qu_n z ∧ qu_n z ≤ 2 := by unfold qu_n; split <;> omega
  intro n9
  induction n9 with
  | zero =>
    intro i hi H locs ls hP hD hS hl
    obtain rfl : kk = i := by omega
    refine lv_aload_n hx hb d_M_quarter_45 rfl (lv_at hl 0 rfl) ?_
    refine lv_iconst (v := 1) hx hb d_M_quarter_46 (by decide) ?_
    refine cs_calli (va_runV (As := [.int 1]) (rest := []) ⟨hx, hb, hml, hown, ha⟩ (c_M_isNothing l dC dI mx th sd nt ro pl vl f pa pr cL ((qu_it f z g p9 kk).1) 1 (by omega) _) (cwV 1 ha g_M_M_isNothing rfl rfl rfl (by decide +kernel) ⟨Nat.le_trans (Nat.le_of_ble_eq_true rfl) hRf, Nat.le_trans (Nat.le_of_ble_eq_true rfl) hRl⟩) (ct_preV ct_G0ok trivial hK hP hD hS hA [0, 1] rfl (by decide) [0] rfl 0 4 rfl rfl rfl) rfl rfl hl.1 rfl (lv_room (Nat.le_of_ble_eq_true rfl)) d_M_quarter_47 ⟨hRc, hRs⟩) hP hD hS hA [0, 1] rfl (by decide) (fun _ => rfl) (fun r9 u7 H locs hq hP hD hS => ?_)
    have hP : va_P (dC, dI) cl9 [(mx, .inr (4, [.int th, .long sd, .int nt, .ref ro, .ref pl, .ref vl, .int (nI f), .ref pa, .ref pr])), (pa, .inl (cL, 240, .inr (.inl ((qu_it f z g p9 kk).1)))), (pr, .inl (cL, 48, .inr (.inl ((qu_it f z g p9 kk).2))))] H := hP
    have hD : va_D A [(mx, .inr (4, [.int th, .long sd, .int nt, .ref ro, .ref pl, .ref vl, .int (nI f), .ref pa, .ref pr])), (pa, .inl (cL, 240, .inr (.inl ((qu_it f z g p9 kk).1)))), (pr, .inl (cL, 48, .inr (.inl ((qu_it f z g p9 kk).2))))] := hD
    refine lv_if_ne (tgt := 110) hx hb d_M_quarter_50 (by decide) (fun hc => ?_) (fun hc => ?_)
    · exact K _ _ _ hP hD hS (lv_sub hl [0, 1, 2] rfl)
    · exact absurd (hq.symm.trans hc) hz
  | succ n9 ih =>
    intro i hi H locs ls hP hD hS hl
    have hlt : i < kk := by omega
    refine lv_aload_n hx hb d_M_quarter_45 rfl (lv_at hl 0 rfl) ?_
    refine lv_iconst (v := 1) hx hb d_M_quarter_46 (by decide) ?_
    refine cs_calli (va_runV (As := [.int 1]) (rest := []) ⟨hx, hb, hml, hown, ha⟩ (c_M_isNothing l dC dI mx th sd nt ro pl vl f pa pr cL ((qu_it f z g p9 i).1) 1 (by omega) _) (cwV 1 ha g_M_M_isNothing rfl rfl rfl (by decide +kernel) ⟨Nat.le_trans (Nat.le_of_ble_eq_true rfl) hRf, Nat.le_trans (Nat.le_of_ble_eq_true rfl) hRl⟩) (ct_preV ct_G0ok trivial hK hP hD hS hA [0, 1] rfl (by decide) [0] rfl 0 4 rfl rfl rfl) rfl rfl hl.1 rfl (lv_room (Nat.le_of_ble_eq_true rfl)) d_M_quarter_47 ⟨hRc, hRs⟩) hP hD hS hA [0, 1] rfl (by decide) (fun _ => rfl) (fun r9 u7 H locs hq hP hD hS => ?_)
    have hP : va_P (dC, dI) cl9 [(mx, .inr (4, [.int th, .long sd, .int nt, .ref ro, .ref pl, .ref vl, .int (nI f), .ref pa, .ref pr])), (pa, .inl (cL, 240, .inr (.inl ((qu_it f z g p9 i).1)))), (pr, .inl (cL, 48, .inr (.inl ((qu_it f z g p9 i).2))))] H := hP
    have hD : va_D A [(mx, .inr (4, [.int th, .long sd, .int nt, .ref ro, .ref pl, .ref vl, .int (nI f), .ref pa, .ref pr])), (pa, .inl (cL, 240, .inr (.inl ((qu_it f z g p9 i).1)))), (pr, .inl (cL, 48, .inr (.inl ((qu_it f z g p9 i).2))))] := hD
    refine lv_if_ne (tgt := 110) hx hb d_M_quarter_50 (by decide) (fun hc => ?_) (fun hc => ?_)
    · exact absurd (hq.trans (hk i hlt)) hc
    · refine lv_aload_n hx hb d_M_quarter_53 rfl (lv_at hl 0 rfl) ?_
      refine lv_iconst (v := 1) hx hb d_M_quarter_54 (by decide) ?_
      refine lv_iconst (v := 1) hx hb d_M_quarter_55 (by decide) ?_
      refine lv_iconst (v := 2) hx hb d_M_quarter_56 (by decide) ?_
      refine cs_callv (va_runV (As := [.int 1, .int 1, .int 2]) (rest := []) ⟨hx, hb, hml, hown, ha⟩ (c_M_multiply l dC dI mx th sd nt ro pl vl f pa pr cL ((qu_it f z g p9 i).1) ((qu_it f z g p9 i).2) 1 1 2 (by omega) (by omega) (by omega) hf9 _) (cwV 3 ha g_M_M_multiply rfl rfl rfl (by decide +kernel) ⟨Nat.le_trans (Nat.le_of_ble_eq_true rfl) hRf, Nat.le_trans (Nat.le_of_ble_eq_true rfl) hRl⟩) (ct_preV ct_G0ok trivial hK hP hD hS hA [0, 1, 2] rfl (by decide) [0] rfl 0 4 rfl rfl rfl) rfl rfl hl.1 rfl (lv_room (Nat.le_of_ble_eq_true rfl)) d_M_quarter_57 ⟨hRc, hRs⟩) hP hD hS hA [0, 1, 2] rfl (by decide) (fun _ => rfl) (fun z_1 H locs hz_1 hP hD hS => ?_)
      have hP : va_P (dC, dI) cl9 [(mx, .inr (4, [.int th, .long sd, .int nt, .ref ro, .ref pl, .ref vl, .int (nI f), .ref pa, .ref pr])), (pa, .inl (cL, 240, .inr (.inl z_1.1))), (pr, .inl (cL, 48, .inr (.inl z_1.2)))] H := hP
      have hD : va_D A [(mx, .inr (4, [.int th, .long sd, .int nt, .ref ro, .ref pl, .ref vl, .int (nI f), .ref pa, .ref pr])), (pa, .inl (cL, 240, .inr (.inl z_1.1))), (pr, .inl (cL, 48, .inr (.inl z_1.2)))] := hD
      obtain ⟨g_2, p_3⟩ := z_1
      obtain ⟨hg_2, hp_3⟩ := hz_1
      have hg_2 : g_2 = mr_mul f 1 1 2 ((qu_it f z g p9 i).1) ((qu_it f z g p9 i).2) := hg_2
      have hp_3 : p_3 = mr_mo 1 2 ((qu_it f z g p9 i).1) ((qu_it f z g p9 i).2) := hp_3
      have hP : va_P (dC, dI) cl9 [(mx, .inr (4, [.int th, .long sd, .int nt, .ref ro, .ref pl, .ref vl, .int (nI f), .ref pa, .ref pr])), (pa, .inl (cL, 240, .inr (.inl g_2))), (pr, .inl (cL, 48, .inr (.inl p_3)))] H := hP
      have hD : va_D A [(mx, .inr (4, [.int th, .long sd, .int nt, .ref ro, .ref pl, .ref vl, .int (nI f), .ref pa, .ref pr])), (pa, .inl (cL, 240, .inr (.inl g_2))), (pr, .inl (cL, 48, .inr (.inl p_3)))] := hD
      refine lv_aload_n hx hb d_M_quarter_60 rfl (lv_at hl 0 rfl) ?_
      refine lv_iconst (v := 1) hx hb d_M_quarter_61 (by decide) ?_
      refine lv_iload_n hx hb d_M_quarter_62 rfl (lv_at hl 2 rfl) ?_
      refine lv_i2l hx hb d_M_quarter_63 rfl ?_
      refine lv_iload_n hx hb d_M_quarter_64 rfl (lv_at hl 2 rfl) ?_
      refine lv_iconst (v := 1) hx hb d_M_quarter_65 (by decide) ?_
      refine lv_iadd hx hb d_M_quarter_66 ?_
      refine lv_i2l hx hb d_M_quarter_67 rfl ?_
      refine lv_lmul hx hb d_M_quarter_68 ?_
      refine cs_callv (va_runV (As := [.int 1, .long ((((nI (qu_n z + 2 * i)) : Int32).toInt64) * ((((nI (qu_n z + 2 * i)) + 1) : Int32).toInt64))]) (rest := []) ⟨hx, hb, hml, hown, ha⟩ (c_M_by l dC dI mx th sd nt ro pl vl f pa pr cL g_2 1 ((nI (qu_n z + 2 * i)).toInt64 * ((nI (qu_n z + 2 * i)) + 1).toInt64) (by omega) (md_q3 (by omega) (by omega)) _) (cwV 2 ha g_M_M_by rfl rfl rfl (by decide +kernel) ⟨Nat.le_trans (Nat.le_of_ble_eq_true rfl) hRf, Nat.le_trans (Nat.le_of_ble_eq_true rfl) hRl⟩) (ct_preV ct_G0ok trivial hK hP hD hS hA [0, 1] rfl (by decide) [0] rfl 0 4 rfl rfl rfl) rfl rfl hl.1 rfl (lv_room (Nat.le_of_ble_eq_true rfl)) d_M_quarter_69 ⟨hRc, hRs⟩) hP hD hS hA [0, 1] rfl (by decide) (fun _ => rfl) (fun g_4 H locs hg_4 hP hD hS => ?_)
      have hP : va_P (dC, dI) cl9 [(mx, .inr (4, [.int th, .long sd, .int nt, .ref ro, .ref pl, .ref vl, .int (nI f), .ref pa, .ref pr])), (pa, .inl (cL, 240, .inr (.inl g_4))), (pr, .inl (cL, 48, .inr (.inl p_3)))] H := hP
      have hD : va_D A [(mx, .inr (4, [.int th, .long sd, .int nt, .ref ro, .ref pl, .ref vl, .int (nI f), .ref pa, .ref pr])), (pa, .inl (cL, 240, .inr (.inl g_4))), (pr, .inl (cL, 48, .inr (.inl p_3)))] := hD
      have hg_4 : g_4 = mr_by 1 ((nI (qu_n z + 2 * i)).toInt64 * ((nI (qu_n z + 2 * i)) + 1).toInt64) g_2 := hg_4.trans (ir_eq _).symm
      refine lv_iload_n hx hb d_M_quarter_72 rfl (lv_at hl 2 rfl) ?_
      refine lv_iload_n hx hb d_M_quarter_73 rfl (lv_at hl 1 rfl) ?_
      refine lv_if_eq (tgt := 81) hx hb d_M_quarter_74 (by decide) (fun hbz => ?_) (fun hbz => ?_)
      · refine lv_iconst (v := 0) hx hb d_M_quarter_81 (by decide) ?_
        rw [show (0 : Int32) = qu_b z from (if_pos hbz).symm]
        refine lv_iadd hx hb d_M_quarter_82 ?_
        refine lv_iconst (v := 4) hx hb d_M_quarter_83 (by decide) ?_
        refine lv_irem hx hb d_M_quarter_84 (by decide) ?_
        refine lv_iconst (v := 2) hx hb d_M_quarter_85 (by decide) ?_
        refine lv_icmp_ne (tgt := 98) hx hb d_M_quarter_86 (by decide) (fun ho => ?_) (fun ho => ?_)
        · refine lv_aload_n hx hb d_M_quarter_98 rfl (lv_at hl 0 rfl) ?_
          refine lv_iconst (v := 0) hx hb d_M_quarter_99 (by decide) ?_
          refine lv_iconst (v := 1) hx hb d_M_quarter_100 (by decide) ?_
          refine cs_callv (va_runV (As := [.int 0, .int 1]) (rest := []) ⟨hx, hb, hml, hown, ha⟩ (c_M_add l dC dI mx th sd nt ro pl vl f pa pr cL g_4 0 1 (by omega) (by omega) _) (cwV 2 ha g_M_M_add rfl rfl rfl (by decide +kernel) ⟨Nat.le_trans (Nat.le_of_ble_eq_true rfl) hRf, Nat.le_trans (Nat.le_of_ble_eq_true rfl) hRl⟩) (ct_preV ct_G0ok trivial hK hP hD hS hA [0, 1] rfl (by decide) [0] rfl 0 4 rfl rfl rfl) rfl rfl hl.1 rfl (lv_room (Nat.le_of_ble_eq_true rfl)) d_M_quarter_101 ⟨hRc, hRs⟩) hP hD hS hA [0, 1] rfl (by decide) (fun _ => rfl) (fun g_5 H locs hg_5 hP hD hS => ?_)
          have hP : va_P (dC, dI) cl9 [(mx, .inr (4, [.int th, .long sd, .int nt, .ref ro, .ref pl, .ref vl, .int (nI f), .ref pa, .ref pr])), (pa, .inl (cL, 240, .inr (.inl g_5))), (pr, .inl (cL, 48, .inr (.inl p_3)))] H := hP
          have hD : va_D A [(mx, .inr (4, [.int th, .long sd, .int nt, .ref ro, .ref pl, .ref vl, .int (nI f), .ref pa, .ref pr])), (pa, .inl (cL, 240, .inr (.inl g_5))), (pr, .inl (cL, 48, .inr (.inl p_3)))] := hD
          have hg_5 : g_5 = mr_add 0 1 g_4 := hg_5.trans (ir_eq _).symm
          refine lv_iinc (v := (nI (qu_n z + 2 * (i + 1)))) (lv' := [(2, .int (nI (qu_n z + 2 * (i + 1)))), (0, .ref mx), (1, .int z)]) hx hb d_M_quarter_104 hl (k := 2) rfl (by exact md_inc2 (qu_n z + 2 * i)) (by decide) rfl (fun ls hl => ?_)
          refine lv_goto (tgt := 45) hx hb d_M_quarter_107 (by decide) ?_
          have e9 : qu_it f z g p9 (i + 1) = (g_5, p_3) := by show qu_st f (qu_b z) (nI (qu_n z + 2 * i)) _ = _; rw [hg_5, hg_4, hp_3, hg_2]; exact Prod.ext (if_neg ho) rfl
          exact ih (i + 1) (by omega) _ _ _ (by rw [e9]; exact hP) (by rw [e9]; exact hD) hS (lv_sub hl [1, 2, 0] rfl)
        · refine lv_aload_n hx hb d_M_quarter_89 rfl (lv_at hl 0 rfl) ?_
          refine lv_iconst (v := 0) hx hb d_M_quarter_90 (by decide) ?_
          refine lv_iconst (v := 1) hx hb d_M_quarter_91 (by decide) ?_
          refine cs_callv (va_runV (As := [.int 0, .int 1]) (rest := []) ⟨hx, hb, hml, hown, ha⟩ (c_M_less l dC dI mx th sd nt ro pl vl f pa pr cL g_4 0 1 (by omega) (by omega) _) (cwV 2 ha g_M_M_less rfl rfl rfl (by decide +kernel) ⟨Nat.le_trans (Nat.le_of_ble_eq_true rfl) hRf, Nat.le_trans (Nat.le_of_ble_eq_true rfl) hRl⟩) (ct_preV ct_G0ok trivial hK hP hD hS hA [0, 1] rfl (by decide) [0] rfl 0 4 rfl rfl rfl) rfl rfl hl.1 rfl (lv_room (Nat.le_of_ble_eq_true rfl)) d_M_quarter_92 ⟨hRc, hRs⟩) hP hD hS hA [0, 1] rfl (by decide) (fun _ => rfl) (fun g_6 H locs hg_6 hP hD hS => ?_)
          have hP : va_P (dC, dI) cl9 [(mx, .inr (4, [.int th, .long sd, .int nt, .ref ro, .ref pl, .ref vl, .int (nI f), .ref pa, .ref pr])), (pa, .inl (cL, 240, .inr (.inl g_6))), (pr, .inl (cL, 48, .inr (.inl p_3)))] H := hP
          have hD : va_D A [(mx, .inr (4, [.int th, .long sd, .int nt, .ref ro, .ref pl, .ref vl, .int (nI f), .ref pa, .ref pr])), (pa, .inl (cL, 240, .inr (.inl g_6))), (pr, .inl (cL, 48, .inr (.inl p_3)))] := hD
          have hg_6 : g_6 = mr_les 0 1 g_4 := hg_6.trans (ir_eq _).symm
          refine lv_goto (tgt := 104) hx hb d_M_quarter_95 (by decide) ?_
          refine lv_iinc (v := (nI (qu_n z + 2 * (i + 1)))) (lv' := [(2, .int (nI (qu_n z + 2 * (i + 1)))), (0, .ref mx), (1, .int z)]) hx hb d_M_quarter_104 hl (k := 2) rfl (by exact md_inc2 (qu_n z + 2 * i)) (by decide) rfl (fun ls hl => ?_)
          refine lv_goto (tgt := 45) hx hb d_M_quarter_107 (by decide) ?_
          have e9 : qu_it f z g p9 (i + 1) = (g_6, p_3) := by show qu_st f (qu_b z) (nI (qu_n z + 2 * i)) _ = _; rw [hg_6, hg_4, hp_3, hg_2]; exact Prod.ext (if_pos ho) rfl
          exact ih (i + 1) (by omega) _ _ _ (by rw [e9]; exact hP) (by rw [e9]; exact hD) hS (lv_sub hl [1, 2, 0] rfl)
      · refine lv_iconst (v := 1) hx hb d_M_quarter_77 (by decide) ?_
        refine lv_goto (tgt := 82) hx hb d_M_quarter_78 (by decide) ?_
        rw [show (1 : Int32) = qu_b z from (if_neg hbz).symm]
        refine lv_iadd hx hb d_M_quarter_82 ?_
        refine lv_iconst (v := 4) hx hb d_M_quarter_83 (by decide) ?_
        refine lv_irem hx hb d_M_quarter_84 (by decide) ?_
        refine lv_iconst (v := 2) hx hb d_M_quarter_85 (by decide) ?_
        refine lv_icmp_ne (tgt := 98) hx hb d_M_quarter_86 (by decide) (fun ho => ?_) (fun ho => ?_)
        · refine lv_aload_n hx hb d_M_quarter_98 rfl (lv_at hl 0 rfl) ?_
          refine lv_iconst (v := 0) hx hb d_M_quarter_99 (by decide) ?_
          refine lv_iconst (v := 1) hx hb d_M_quarter_100 (by decide) ?_
          refine cs_callv (va_runV (As := [.int 0, .int 1]) (rest := []) ⟨hx, hb, hml, hown, ha⟩ (c_M_add l dC dI mx th sd nt ro pl vl f pa pr cL g_4 0 1 (by omega) (by omega) _) (cwV 2 ha g_M_M_add rfl rfl rfl (by decide +kernel) ⟨Nat.le_trans (Nat.le_of_ble_eq_true rfl) hRf, Nat.le_trans (Nat.le_of_ble_eq_true rfl) hRl⟩) (ct_preV ct_G0ok trivial hK hP hD hS hA [0, 1] rfl (by decide) [0] rfl 0 4 rfl rfl rfl) rfl rfl hl.1 rfl (lv_room (Nat.le_of_ble_eq_true rfl)) d_M_quarter_101 ⟨hRc, hRs⟩) hP hD hS hA [0, 1] rfl (by decide) (fun _ => rfl) (fun g_7 H locs hg_7 hP hD hS => ?_)
          have hP : va_P (dC, dI) cl9 [(mx, .inr (4, [.int th, .long sd, .int nt, .ref ro, .ref pl, .ref vl, .int (nI f), .ref pa, .ref pr])), (pa, .inl (cL, 240, .inr (.inl g_7))), (pr, .inl (cL, 48, .inr (.inl p_3)))] H := hP
          have hD : va_D A [(mx, .inr (4, [.int th, .long sd, .int nt, .ref ro, .ref pl, .ref vl, .int (nI f), .ref pa, .ref pr])), (pa, .inl (cL, 240, .inr (.inl g_7))), (pr, .inl (cL, 48, .inr (.inl p_3)))] := hD
          have hg_7 : g_7 = mr_add 0 1 g_4 := hg_7.trans (ir_eq _).symm
          refine lv_iinc (v := (nI (qu_n z + 2 * (i + 1)))) (lv' := [(2, .int (nI (qu_n z + 2 * (i + 1)))), (0, .ref mx), (1, .int z)]) hx hb d_M_quarter_104 hl (k := 2) rfl (by exact md_inc2 (qu_n z + 2 * i)) (by decide) rfl (fun ls hl => ?_)
          refine lv_goto (tgt := 45) hx hb d_M_quarter_107 (by decide) ?_
          have e9 : qu_it f z g p9 (i + 1) = (g_7, p_3) := by show qu_st f (qu_b z) (nI (qu_n z + 2 * i)) _ = _; rw [hg_7, hg_4, hp_3, hg_2]; exact Prod.ext (if_neg ho) rfl
          exact ih (i + 1) (by omega) _ _ _ (by rw [e9]; exact hP) (by rw [e9]; exact hD) hS (lv_sub hl [1, 2, 0] rfl)
        · refine lv_aload_n hx hb d_M_quarter_89 rfl (lv_at hl 0 rfl) ?_
          refine lv_iconst (v := 0) hx hb d_M_quarter_90 (by decide) ?_
          refine lv_iconst (v := 1) hx hb d_M_quarter_91 (by decide) ?_
          refine cs_callv (va_runV (As := [.int 0, .int 1]) (rest := []) ⟨hx, hb, hml, hown, ha⟩ (c_M_less l dC dI mx th sd nt ro pl vl f pa pr cL g_4 0 1 (by omega) (by omega) _) (cwV 2 ha g_M_M_less rfl rfl rfl (by decide +kernel) ⟨Nat.le_trans (Nat.le_of_ble_eq_true rfl) hRf, Nat.le_trans (Nat.le_of_ble_eq_true rfl) hRl⟩) (ct_preV ct_G0ok trivial hK hP hD hS hA [0, 1] rfl (by decide) [0] rfl 0 4 rfl rfl rfl) rfl rfl hl.1 rfl (lv_room (Nat.le_of_ble_eq_true rfl)) d_M_quarter_92 ⟨hRc, hRs⟩) hP hD hS hA [0, 1] rfl (by decide) (fun _ => rfl) (fun g_8 H locs hg_8 hP hD hS => ?_)
          have hP : va_P (dC, dI) cl9 [(mx, .inr (4, [.int th, .long sd, .int nt, .ref ro, .ref pl, .ref vl, .int (nI f), .ref pa, .ref pr])), (pa, .inl (cL, 240, .inr (.inl g_8))), (pr, .inl (cL, 48, .inr (.inl p_3)))] H := hP
          have hD : va_D A [(mx, .inr (4, [.int th, .long sd, .int nt, .ref ro, .ref pl, .ref vl, .int (nI f), .ref pa, .ref pr])), (pa, .inl (cL, 240, .inr (.inl g_8))), (pr, .inl (cL, 48, .inr (.inl p_3)))] := hD
          have hg_8 : g_8 = mr_les 0 1 g_4 := hg_8.trans (ir_eq _).symm
          refine lv_goto (tgt := 104) hx hb d_M_quarter_95 (by decide) ?_
          refine lv_iinc (v := (nI (qu_n z + 2 * (i + 1)))) (lv' := [(2, .int (nI (qu_n z + 2 * (i + 1)))), (0, .ref mx), (1, .int z)]) hx hb d_M_quarter_104 hl (k := 2) rfl (by exact md_inc2 (qu_n z + 2 * i)) (by decide) rfl (fun ls hl => ?_)
          refine lv_goto (tgt := 45) hx hb d_M_quarter_107 (by decide) ?_
          have e9 : qu_it f z g p9 (i + 1) = (g_8, p_3) := by show qu_st f (qu_b z) (nI (qu_n z + 2 * i)) _ = _; rw [hg_8, hg_4, hp_3, hg_2]; exact Prod.ext (if_pos ho) rfl
          exact ih (i + 1) (by omega) _ _ _ (by rw [e9]; exact hP) (by rw [e9]; exact hD) hS (lv_sub hl [1, 2, 0] rfl)
set_option maxHeartbeats 4000000 in
set_option maxRecDepth 100000 in
/-- SUM becomes the sine, or cosine, of X -/
theorem c_M_quarter (l : Launch) (dC : Nat → ClassId) (dI : Nat → Nat → Nat) (mx : Nat) (th : Int32) (sd : Int64) (nt : Int32) (ro : Nat) (pl : Nat) (vl : Nat) (f : Nat) (pa : Nat) (pr : Nat) (cL : ClassId) (g : Nat → Int64) (p9 : Nat → Int64) (z : Int32) (hf9 : f ≤ 24) (kk : Nat) (hkk : kk < 1000) (hk : ∀ i, i < kk → md_no 1 (qu_it f z g p9 i).1 24 = 0) (hz : ¬ md_no 1 (qu_it f z g p9 kk).1 24 = 0) (sz : Nat) : ct_V l y_M_quarter w_M_quarter { frames := 2, cells := 0, slots := 0, locals := 80 } (dC, dI) cl9 [(cL, .long)] ct_G0 [.ref mx, .int z] [(mx, .inr (4, [.int th, .long sd, .int nt, .ref ro, .ref pl, .ref vl, .int (nI f), .ref pa, .ref pr])), (pa, .inl (cL, 240, .inr (.inl g))), (pr, .inl (cL, 48, .inr (.inl p9)))] sz (S := S2) (fun u : S2 => u = qu_it f z g p9 kk) (fun _ : S2 => [(cL, .long)]) (fun u : S2 => [(mx, .inr (4, [.int th, .long sd, .int nt, .ref ro, .ref pl, .ref vl, .int (nI f), .ref pa, .ref pr])), (pa, .inl (cL, 240, .inr (.inl u.1))), (pr, .inl (cL, 48, .inr (.inl u.2)))]) 0 0 := by
  refine ct_of (Qf := fun A => va_Qv (fun u : S2 => u = qu_it f z g p9 kk) (ct_B (S := S2) (dC, dI) cl9 (fun _ : S2 => [(cL, .long)]) A (fun u : S2 => [(mx, .inr (4, [.int th, .long sd, .int nt, .ref ro, .ref pl, .ref vl, .int (nI f), .ref pa, .ref pr])), (pa, .inl (cL, 240, .inr (.inl u.1))), (pr, .inl (cL, 48, .inr (.inl u.2)))])) A) (cc := b_M_quarter) (maxL := 3) (ret := none) (by decide) rfl (Nat.le_of_ble_eq_true rfl) ?_
  intro p e s m below meth c A ls hF hA hP hK hD hG hS hl
  obtain ⟨hx, hb, hr, hml, hts, hown, hlocks, hnm⟩ := id hF
  have hown : s.vm.findClass R_M = some m.cls := hown
  have ha : ∀ w ∈ al_M, w.before [.ref mx, .int z].toArray s = true := fun w h => hts w (List.mem_cons_of_mem _ h)
  have hl : lv_has ls 3 [(0, .ref mx), (1, .int z)] := hl
  refine lv_aload_n hx hb d_M_quarter_0 rfl (lv_at hl 0 rfl) ?_
  refine lv_iconst (v := 2) hx hb d_M_quarter_1 (by decide) ?_
  refine lv_bipush (v := 8) hx hb d_M_quarter_2 (by decide) ?_
  refine lv_bipush (v := 8) hx hb d_M_quarter_4 (by decide) ?_
  refine cs_callv (va_runV (As := [.int 2, .int 8, .int 8]) (rest := []) ⟨hx, hb, hml, hown, ha⟩ (c_M_multiply l dC dI mx th sd nt ro pl vl f pa pr cL g p9 2 8 8 (by omega) (by omega) (by omega) hf9 _) (cwV 3 ha g_M_M_multiply rfl rfl rfl (by decide +kernel) ⟨Nat.le_of_ble_eq_true rfl, Nat.le_of_ble_eq_true rfl⟩) (ct_preV ct_G0ok trivial hK hP hD hS hA [0, 1, 2] rfl (by decide) [0] rfl 0 4 rfl rfl rfl) rfl rfl hl.1 rfl (lv_room (Nat.le_of_ble_eq_true rfl)) d_M_quarter_6 ⟨Nat.le_of_ble_eq_true rfl, Nat.le_of_ble_eq_true rfl⟩) hP hD hS hA [0, 1, 2] rfl (by decide) (fun _ => rfl) (fun z_9 H locs hz_9 hP hD hS => ?_)
  have hP : va_P (dC, dI) cl9 [(mx, .inr (4, [.int th, .long sd, .int nt, .ref ro, .ref pl, .ref vl, .int (nI f), .ref pa, .ref pr])), (pa, .inl (cL, 240, .inr (.inl z_9.1))), (pr, .inl (cL, 48, .inr (.inl z_9.2)))] H := hP
  have hD : va_D A [(mx, .inr (4, [.int th, .long sd, .int nt, .ref ro, .ref pl, .ref vl, .int (nI f), .ref pa, .ref pr])), (pa, .inl (cL, 240, .inr (.inl z_9.1))), (pr, .inl (cL, 48, .inr (.inl z_9.2)))] := hD
  obtain ⟨g_10, p_11⟩ := z_9
  obtain ⟨hg_10, hp_11⟩ := hz_9
  have hg_10 : g_10 = mr_mul f 2 8 8 g p9 := hg_10
  have hp_11 : p_11 = mr_mo 8 8 g p9 := hp_11
  have hP : va_P (dC, dI) cl9 [(mx, .inr (4, [.int th, .long sd, .int nt, .ref ro, .ref pl, .ref vl, .int (nI f), .ref pa, .ref pr])), (pa, .inl (cL, 240, .inr (.inl g_10))), (pr, .inl (cL, 48, .inr (.inl p_11)))] H := hP
  have hD : va_D A [(mx, .inr (4, [.int th, .long sd, .int nt, .ref ro, .ref pl, .ref vl, .int (nI f), .ref pa, .ref pr])), (pa, .inl (cL, 240, .inr (.inl g_10))), (pr, .inl (cL, 48, .inr (.inl p_11)))] := hD
  refine lv_iload_n hx hb d_M_quarter_9 rfl (lv_at hl 1 rfl) ?_
  refine lv_if_eq (tgt := 22) hx hb d_M_quarter_10 (by decide) (fun hbz => ?_) (fun hbz => ?_)
  · refine lv_aload_n hx hb d_M_quarter_22 rfl (lv_at hl 0 rfl) ?_
    refine lv_iconst (v := 1) hx hb d_M_quarter_23 (by decide) ?_
    refine lv_bipush (v := 8) hx hb d_M_quarter_24 (by decide) ?_
    refine cs_callv (va_runV (As := [.int 1, .int 8]) (rest := []) ⟨hx, hb, hml, hown, ha⟩ (c_M_copy l dC dI mx th sd nt ro pl vl f pa pr cL g_10 1 8 (by omega) (by omega) _) (cwV 2 ha g_M_M_copy rfl rfl rfl (by decide +kernel) ⟨Nat.le_of_ble_eq_true rfl, Nat.le_of_ble_eq_true rfl⟩) (ct_preV ct_G0ok trivial hK hP hD hS hA [0, 1] rfl (by decide) [0] rfl 0 4 rfl rfl rfl) rfl rfl hl.1 rfl (lv_room (Nat.le_of_ble_eq_true rfl)) d_M_quarter_26 ⟨Nat.le_of_ble_eq_true rfl, Nat.le_of_ble_eq_true rfl⟩) hP hD hS hA [0, 1] rfl (by decide) (fun _ => rfl) (fun g_12 H locs hg_12 hP hD hS => ?_)
    have hP : va_P (dC, dI) cl9 [(mx, .inr (4, [.int th, .long sd, .int nt, .ref ro, .ref pl, .ref vl, .int (nI f), .ref pa, .ref pr])), (pa, .inl (cL, 240, .inr (.inl g_12))), (pr, .inl (cL, 48, .inr (.inl p_11)))] H := hP
    have hD : va_D A [(mx, .inr (4, [.int th, .long sd, .int nt, .ref ro, .ref pl, .ref vl, .int (nI f), .ref pa, .ref pr])), (pa, .inl (cL, 240, .inr (.inl g_12))), (pr, .inl (cL, 48, .inr (.inl p_11)))] := hD
    have hg_12 : g_12 = mr_cp 1 8 g_10 := hg_12.trans (ir_eq _).symm
    refine lv_aload_n hx hb d_M_quarter_29 rfl (lv_at hl 0 rfl) ?_
    refine lv_iconst (v := 0) hx hb d_M_quarter_30 (by decide) ?_
    refine lv_iconst (v := 1) hx hb d_M_quarter_31 (by decide) ?_
    refine cs_callv (va_runV (As := [.int 0, .int 1]) (rest := []) ⟨hx, hb, hml, hown, ha⟩ (c_M_copy l dC dI mx th sd nt ro pl vl f pa pr cL g_12 0 1 (by omega) (by omega) _) (cwV 2 ha g_M_M_copy rfl rfl rfl (by decide +kernel) ⟨Nat.le_of_ble_eq_true rfl, Nat.le_of_ble_eq_true rfl⟩) (ct_preV ct_G0ok trivial hK hP hD hS hA [0, 1] rfl (by decide) [0] rfl 0 4 rfl rfl rfl) rfl rfl hl.1 rfl (lv_room (Nat.le_of_ble_eq_true rfl)) d_M_quarter_32 ⟨Nat.le_of_ble_eq_true rfl, Nat.le_of_ble_eq_true rfl⟩) hP hD hS hA [0, 1] rfl (by decide) (fun _ => rfl) (fun g_13 H locs hg_13 hP hD hS => ?_)
    have hP : va_P (dC, dI) cl9 [(mx, .inr (4, [.int th, .long sd, .int nt, .ref ro, .ref pl, .ref vl, .int (nI f), .ref pa, .ref pr])), (pa, .inl (cL, 240, .inr (.inl g_13))), (pr, .inl (cL, 48, .inr (.inl p_11)))] H := hP
    have hD : va_D A [(mx, .inr (4, [.int th, .long sd, .int nt, .ref ro, .ref pl, .ref vl, .int (nI f), .ref pa, .ref pr])), (pa, .inl (cL, 240, .inr (.inl g_13))), (pr, .inl (cL, 48, .inr (.inl p_11)))] := hD
    have hg_13 : g_13 = mr_cp 0 1 g_12 := hg_13.trans (ir_eq _).symm
    refine lv_iload_n hx hb d_M_quarter_35 rfl (lv_at hl 1 rfl) ?_
    refine lv_if_eq (tgt := 43) hx hb d_M_quarter_36 (by decide) (fun hb2 => ?_) (fun hb2 => ?_)
    · refine lv_iconst (v := 2) hx hb d_M_quarter_43 (by decide) ?_
      rw [show (2 : Int32) = nI (qu_n z + 2 * 0) from by rw [show qu_n z = 2 from if_pos hbz]; rfl]
      refine lv_istore_n (lv' := [(2, .int (nI (qu_n z + 2 * 0))), (0, .ref mx), (1, .int z)]) hx hb d_M_quarter_44 rfl hl (by decide) rfl (fun ls hl => ?_)
      have e9 : qu_it f z g p9 0 = (g_13, p_11) := by show qu_0 f z g p9 = _; unfold qu_0; rw [show qu_1 f z = _ from funext (fun _ => if_pos hbz)]; rw [hg_13, hg_12, hp_11, hg_10]; rfl
      refine lp_M_quarter (mx := mx) (th := th) (sd := sd) (nt := nt) (ro := ro) (pl := pl) (vl := vl) (f := f) (pa := pa) (pr := pr) (cL := cL) (g := g) (p9 := p9) (z := z) hF hA hK (Nat.le_of_ble_eq_true rfl) (Nat.le_of_ble_eq_true rfl) (Nat.le_of_ble_eq_true rfl) (Nat.le_of_ble_eq_true rfl) hf9 hkk hk hz (fun H locs ls hP hD hS hl => ?_) kk 0 (by omega) _ _ _ (by rw [e9]; exact hP) (by rw [e9]; exact hD) hS (lv_sub hl [1, 2, 0] rfl)
      exact ct_vret hF d_M_quarter_110 (qu_it f z g p9 kk) rfl (hP.sub [0, 1, 2] rfl) (hD.sub [0, 1, 2] (by decide) rfl) hK hS
    · exact absurd hbz hb2
  · refine lv_aload_n hx hb d_M_quarter_13 rfl (lv_at hl 0 rfl) ?_
    refine lv_iconst (v := 1) hx hb d_M_quarter_14 (by decide) ?_
    refine lv_lconst (v := 1) hx hb d_M_quarter_15 (by decide) ?_
    refine cs_callv (va_runV (As := [.int 1, .long 1]) (rest := []) ⟨hx, hb, hml, hown, ha⟩ (c_M_whole l dC dI mx th sd nt ro pl vl f pa pr cL g_10 1 1 (by omega) hf9 _) (cwV 2 ha g_M_M_whole rfl rfl rfl (by decide +kernel) ⟨Nat.le_of_ble_eq_true rfl, Nat.le_of_ble_eq_true rfl⟩) (ct_preV ct_G0ok trivial hK hP hD hS hA [0, 1] rfl (by decide) [0] rfl 0 4 rfl rfl rfl) rfl rfl hl.1 rfl (lv_room (Nat.le_of_ble_eq_true rfl)) d_M_quarter_16 ⟨Nat.le_of_ble_eq_true rfl, Nat.le_of_ble_eq_true rfl⟩) hP hD hS hA [0, 1] rfl (by decide) (fun _ => rfl) (fun g_14 H locs hg_14 hP hD hS => ?_)
    have hP : va_P (dC, dI) cl9 [(mx, .inr (4, [.int th, .long sd, .int nt, .ref ro, .ref pl, .ref vl, .int (nI f), .ref pa, .ref pr])), (pa, .inl (cL, 240, .inr (.inl g_14))), (pr, .inl (cL, 48, .inr (.inl p_11)))] H := hP
    have hD : va_D A [(mx, .inr (4, [.int th, .long sd, .int nt, .ref ro, .ref pl, .ref vl, .int (nI f), .ref pa, .ref pr])), (pa, .inl (cL, 240, .inr (.inl g_14))), (pr, .inl (cL, 48, .inr (.inl p_11)))] := hD
    have hg_14 : g_14 = mr_wh f 1 1 g_10 := hg_14.trans (ir_eq _).symm
    refine lv_goto (tgt := 29) hx hb d_M_quarter_19 (by decide) ?_
    refine lv_aload_n hx hb d_M_quarter_29 rfl (lv_at hl 0 rfl) ?_
    refine lv_iconst (v := 0) hx hb d_M_quarter_30 (by decide) ?_
    refine lv_iconst (v := 1) hx hb d_M_quarter_31 (by decide) ?_
    refine cs_callv (va_runV (As := [.int 0, .int 1]) (rest := []) ⟨hx, hb, hml, hown, ha⟩ (c_M_copy l dC dI mx th sd nt ro pl vl f pa pr cL g_14 0 1 (by omega) (by omega) _) (cwV 2 ha g_M_M_copy rfl rfl rfl (by decide +kernel) ⟨Nat.le_of_ble_eq_true rfl, Nat.le_of_ble_eq_true rfl⟩) (ct_preV ct_G0ok trivial hK hP hD hS hA [0, 1] rfl (by decide) [0] rfl 0 4 rfl rfl rfl) rfl rfl hl.1 rfl (lv_room (Nat.le_of_ble_eq_true rfl)) d_M_quarter_32 ⟨Nat.le_of_ble_eq_true rfl, Nat.le_of_ble_eq_true rfl⟩) hP hD hS hA [0, 1] rfl (by decide) (fun _ => rfl) (fun g_15 H locs hg_15 hP hD hS => ?_)
    have hP : va_P (dC, dI) cl9 [(mx, .inr (4, [.int th, .long sd, .int nt, .ref ro, .ref pl, .ref vl, .int (nI f), .ref pa, .ref pr])), (pa, .inl (cL, 240, .inr (.inl g_15))), (pr, .inl (cL, 48, .inr (.inl p_11)))] H := hP
    have hD : va_D A [(mx, .inr (4, [.int th, .long sd, .int nt, .ref ro, .ref pl, .ref vl, .int (nI f), .ref pa, .ref pr])), (pa, .inl (cL, 240, .inr (.inl g_15))), (pr, .inl (cL, 48, .inr (.inl p_11)))] := hD
    have hg_15 : g_15 = mr_cp 0 1 g_14 := hg_15.trans (ir_eq _).symm
    refine lv_iload_n hx hb d_M_quarter_35 rfl (lv_at hl 1 rfl) ?_
    refine lv_if_eq (tgt := 43) hx hb d_M_quarter_36 (by decide) (fun hb2 => ?_) (fun hb2 => ?_)
    · exact absurd hb2 hbz
    · refine lv_iconst (v := 1) hx hb d_M_quarter_39 (by decide) ?_
      refine lv_goto (tgt := 44) hx hb d_M_quarter_40 (by decide) ?_
      rw [show (1 : Int32) = nI (qu_n z + 2 * 0) from by rw [show qu_n z = 1 from if_neg hbz]; rfl]
      refine lv_istore_n (lv' := [(2, .int (nI (qu_n z + 2 * 0))), (0, .ref mx), (1, .int z)]) hx hb d_M_quarter_44 rfl hl (by decide) rfl (fun ls hl => ?_)
      have e9 : qu_it f z g p9 0 = (g_15, p_11) := by show qu_0 f z g p9 = _; unfold qu_0; rw [show qu_1 f z = _ from funext (fun _ => if_neg hbz)]; rw [hg_15, hg_14, hp_11, hg_10]; rfl
      refine lp_M_quarter (mx := mx) (th := th) (sd := sd) (nt := nt) (ro := ro) (pl := pl) (vl := vl) (f := f) (pa := pa) (pr := pr) (cL := cL) (g := g) (p9 := p9) (z := z) hF hA hK (Nat.le_of_ble_eq_true rfl) (Nat.le_of_ble_eq_true rfl) (Nat.le_of_ble_eq_true rfl) (Nat.le_of_ble_eq_true rfl) hf9 hkk hk hz (fun H locs ls hP hD hS hl => ?_) kk 0 (by omega) _ _ _ (by rw [e9]; exact hP) (by rw [e9]; exact hD) hS (lv_sub hl [1, 2, 0] rfl)
      exact ct_vret hF d_M_quarter_110 (qu_it f z g p9 kk) rfl (hP.sub [0, 1, 2] rfl) (hD.sub [0, 1, 2] (by decide) rfl) hK hS
def lo_1 (k : Nat) (z : S2) : S2 := (mr_cp 3 0 (mr_tim 0 (nI k).toInt64 z.1), z.2)
def lo_e (z : S2) : S2 := (mr_add 0 3 z.1, z.2)
def lo_a (f : Nat) (k : Nat) (g p : Nat → Int64) (k1 : Nat) : S2 := lo_1 k (ra_end (ra_it f 1 3 g p k1))
def lo_r (f : Nat) (v : Int64) (k : Nat) (g p : Nat → Int64) (k1 k2 : Nat) : S2 := lo_e (ra_end (ra_it f (v - lg_two k) (v + lg_two k) (lo_a f k g p k1).1 (lo_a f k g p k1).2 k2))
set_option maxHeartbeats 4000000 in
set_option maxRecDepth 100000 in
/-- two's powers -/
theorem lp_M_logarithmOf {p : Program} {l : Launch} {e : Env} {R : Room} {s : State} {m : MethodId} {args : Array Value} {below : List Frame} {meth : Method} {c : Code} {Q : State → Prop} {A : Nat → Prop} {cells slots : Nat} {dC : Nat → ClassId} {dI : Nat → Nat → Nat} {mx : Nat} {th : Int32} {sd : Int64} {nt : Int32} {ro : Nat} {pl : Nat} {vl : Nat} {f : Nat} {pa : Nat} {pr : Nat} {cL : ClassId} {g : Nat → Int64} {p9 : Nat → Int64} {v : Int64} {k : Nat} (hF : ct_F p s m meth c b_M_logarithmOf none 6 w_M_logarithmOf y_M_logarithmOf args) (hA : ∀ q, s.heap.size ≤ q → A q) (hK : va_K (dC, dI) cl9 [(cL, .long)] s) (hj : ∀ i, i < k → ¬ v < 2 * lg_two i) (hje : v < 2 * lg_two k)
    (K : ∀ (H : Heap) (locs : List Loc) (ls : Array Slot), va_P (dC, dI) cl9 [(mx, .inr (4, [.int th, .long sd, .int nt, .ref ro, .ref pl, .ref vl, .int (nI f), .ref pa, .ref pr])), (pa, .inl (cL, 240, .inr (.inl g))), (pr, .inl (cL, 48, .inr (.inl p9)))] H → va_D A [(mx, .inr (4, [.int th, .long sd, .int nt, .ref ro, .ref pl, .ref vl, .int (nI f), .ref pa, .ref pr])), (pa, .inl (cL, 240, .inr (.inl g))), (pr, .inl (cL, 48, .inr (.inl p9)))] → va_S A s.heap H locs → lv_has ls 6 [(0, .ref mx), (1, .long v), (3, .long (lg_two k)), (5, .int (nI k))] → W p l e R s m args below meth c H locs cells slots Q (F0 m 27 ls [])) :
    ∀ (n9 i : Nat), i + n9 = k → ∀ (H : Heap) (locs : List Loc) (ls : Array Slot), va_P (dC, dI) cl9 [(mx, .inr (4, [.int th, .long sd, .int nt, .ref ro, .ref pl, .ref vl, .int (nI f), .ref pa, .ref pr])), (pa, .inl (cL, 240, .inr (.inl g))), (pr, .inl (cL, 48, .inr (.inl p9)))] H → va_D A [(mx, .inr (4, [.int th, .long sd, .int nt, .ref ro, .ref pl, .ref vl, .int (nI f), .ref pa, .ref pr])), (pa, .inl (cL, 240, .inr (.inl g))), (pr, .inl (cL, 48, .inr (.inl p9)))] → va_S A s.heap H locs → lv_has ls 6 [(0, .ref mx), (1, .long v), (3, .long (lg_two i)), (5, .int (nI i))] → W p l e R s m args below meth c H locs cells slots Q (F0 m 5 ls []) := by
  obtain ⟨hx, hb, hr, hml, hts, hown, hlocks, hnm⟩ := id hF
  have hown : s.vm.findClass R_M = some m.cls := hown
  have ha : ∀ w ∈ al_M, w.before args s = true := fun w h => hts w (List.mem_cons_of_mem _ h)
  intro n9
  induction n9 with
  | zero =>
    intro i hi H locs ls hP hD hS hl
    obtain rfl : k = i := by omega
    refine lv_ldc2 (v := 2) hx hb hown (ha _ wm_M_82) d_M_logarithmOf_5 ?_
    refine lv_lload_n hx hb d_M_logarithmOf_8 rfl (lv_at hl 2 rfl) ?_
    refine lv_lmul hx hb d_M_logarithmOf_9 ?_
    refine lv_lload_n hx hb d_M_logarithmOf_10 rfl (lv_at hl 1 rfl) ?_
    refine ct_jgt (tgt := 27) hx hb d_M_logarithmOf_11 d_M_logarithmOf_12 (by decide) (fun hc => ?_) (fun hc => ?_)
    · exact K _ _ _ hP hD hS (lv_sub hl [0, 1, 2, 3] rfl)
    · exact absurd hje hc
  | succ n9 ih =>
    intro i hi H locs ls hP hD hS hl
    have hlt : i < k := by omega
    refine lv_ldc2 (v := 2) hx hb hown (ha _ wm_M_82) d_M_logarithmOf_5 ?_
    refine lv_lload_n hx hb d_M_logarithmOf_8 rfl (lv_at hl 2 rfl) ?_
    refine lv_lmul hx hb d_M_logarithmOf_9 ?_
    refine lv_lload_n hx hb d_M_logarithmOf_10 rfl (lv_at hl 1 rfl) ?_
    refine ct_jgt (tgt := 27) hx hb d_M_logarithmOf_11 d_M_logarithmOf_12 (by decide) (fun hc => ?_) (fun hc => ?_)
    · exact absurd hc (hj i hlt)
    · refine lv_ldc2 (v := 2) hx hb hown (ha _ wm_M_82) d_M_logarithmOf_15 ?_
      refine lv_lload_n hx hb d_M_logarithmOf_18 rfl (lv_at hl 2 rfl) ?_
      refine lv_lmul hx hb d_M_logarithmOf_19 ?_
      refine lv_lstore_n (lv' := [(3, .long (2 * (lg_two i))), (0, .ref mx), (1, .long v), (5, .int (nI i))]) hx hb d_M_logarithmOf_20 rfl hl (by decide) rfl (fun ls hl => ?_)
      refine lv_iinc (v := (nI (i + 1))) (lv' := [(5, .int (nI (i + 1))), (3, .long (2 * (lg_two i))), (0, .ref mx), (1, .long v)]) hx hb d_M_logarithmOf_21 hl (k := 3) rfl (by exact nI_1 i) (by decide) rfl (fun ls hl => ?_)
      refine lv_goto (tgt := 5) hx hb d_M_logarithmOf_24 (by decide) ?_
      exact ih (i + 1) (by omega) _ _ _ hP hD hS (lv_sub hl [2, 3, 1, 0] rfl)
set_option maxHeartbeats 4000000 in
set_option maxRecDepth 100000 in
/-- SUM becomes the logarithm of v -/
theorem c_M_logarithmOf (l : Launch) (dC : Nat → ClassId) (dI : Nat → Nat → Nat) (mx : Nat) (th : Int32) (sd : Int64) (nt : Int32) (ro : Nat) (pl : Nat) (vl : Nat) (f : Nat) (pa : Nat) (pr : Nat) (cL : ClassId) (g : Nat → Int64) (p9 : Nat → Int64) (v : Int64) (hf9 : f ≤ 24) (k : Nat) (hj : ∀ i, i < k → ¬ v < 2 * lg_two i) (hje : v < 2 * lg_two k) (hvt : ¬ v + lg_two k = 0) (k1 : Nat) (hkk1 : k1 < 1000) (hk1 : ∀ i, i < k1 → md_no 1 (ra_it f 1 3 g p9 i).1 24 = 0) (hz1 : ¬ md_no 1 (ra_it f 1 3 g p9 k1).1 24 = 0) (k2 : Nat) (hkk2 : k2 < 1000) (hk2 : ∀ i, i < k2 → md_no 1 (ra_it f (v - lg_two k) (v + lg_two k) (lo_a f k g p9 k1).1 (lo_a f k g p9 k1).2 i).1 24 = 0) (hz2 : ¬ md_no 1 (ra_it f (v - lg_two k) (v + lg_two k) (lo_a f k g p9 k1).1 (lo_a f k g p9 k1).2 k2).1 24 = 0) (sz : Nat) : ct_V l y_M_logarithmOf w_M_logarithmOf { frames := 3, cells := 0, slots := 0, locals := 110 } (dC, dI) cl9 [(cL, .long)] ct_G0 [.ref mx, .long v] [(mx, .inr (4, [.int th, .long sd, .int nt, .ref ro, .ref pl, .ref vl, .int (nI f), .ref pa, .ref pr])), (pa, .inl (cL, 240, .inr (.inl g))), (pr, .inl (cL, 48, .inr (.inl p9)))] sz (S := S2) (fun u : S2 => u = lo_r f v k g p9 k1 k2) (fun _ : S2 => [(cL, .long)]) (fun u : S2 => [(mx, .inr (4, [.int th, .long sd, .int nt, .ref ro, .ref pl, .ref vl, .int (nI f), .ref pa, .ref pr])), (pa, .inl (cL, 240, .inr (.inl u.1))), (pr, .inl (cL, 48, .inr (.inl u.2)))]) 0 0 := by
  refine ct_of (Qf := fun A => va_Qv (fun u : S2 => u = lo_r f v k g p9 k1 k2) (ct_B (S := S2) (dC, dI) cl9 (fun _ : S2 => [(cL, .long)]) A (fun u : S2 => [(mx, .inr (4, [.int th, .long sd, .int nt, .ref ro, .ref pl, .ref vl, .int (nI f), .ref pa, .ref pr])), (pa, .inl (cL, 240, .inr (.inl u.1))), (pr, .inl (cL, 48, .inr (.inl u.2)))])) A) (cc := b_M_logarithmOf) (maxL := 6) (ret := none) (by decide) rfl (Nat.le_of_ble_eq_true rfl) ?_
  intro p e s m below meth c A ls hF hA hP hK hD hG hS hl
  obtain ⟨hx, hb, hr, hml, hts, hown, hlocks, hnm⟩ := id hF
  have hown : s.vm.findClass R_M = some m.cls := hown
  have ha : ∀ w ∈ al_M, w.before [.ref mx, .long v].toArray s = true := fun w h => hts w (List.mem_cons_of_mem _ h)
  have hl : lv_has ls 6 [(0, .ref mx), (1, .long v)] := hl
  refine lv_lconst (v := 1) hx hb d_M_logarithmOf_0 (by decide) ?_
  refine lv_lstore_n (lv' := [(3, .long 1), (0, .ref mx), (1, .long v)]) hx hb d_M_logarithmOf_1 rfl hl (by decide) rfl (fun ls hl => ?_)
  refine lv_iconst (v := 0) hx hb d_M_logarithmOf_2 (by decide) ?_
  refine lv_istore (lv' := [(5, .int 0), (3, .long 1), (0, .ref mx), (1, .long v)]) hx hb d_M_logarithmOf_3 hl (by decide) rfl (fun ls hl => ?_)
  refine lp_M_logarithmOf (mx := mx) (th := th) (sd := sd) (nt := nt) (ro := ro) (pl := pl) (vl := vl) (f := f) (pa := pa) (pr := pr) (cL := cL) (g := g) (p9 := p9) (v := v) (k := k) hF hA hK hj hje (fun H locs ls hP hD hS hl => ?_) k 0 (by omega) _ _ _ hP hD hS (lv_sub hl [2, 3, 1, 0] rfl)
  refine lv_aload_n hx hb d_M_logarithmOf_27 rfl (lv_at hl 0 rfl) ?_
  refine lv_lconst (v := 1) hx hb d_M_logarithmOf_28 (by decide) ?_
  refine lv_ldc2 (v := 3) hx hb hown (ha _ wm_M_83) d_M_logarithmOf_29 ?_
  refine cs_callv (va_runV (As := [.long 1, .long 3]) (rest := []) ⟨hx, hb, hml, hown, ha⟩ (c_M_raised l dC dI mx th sd nt ro pl vl f pa pr cL g p9 1 3 hf9 (by decide) k1 hkk1 hk1 hz1 _) (cwV 2 ha g_M_M_raised rfl rfl rfl (by decide +kernel) ⟨Nat.le_of_ble_eq_true rfl, Nat.le_of_ble_eq_true rfl⟩) (ct_preV ct_G0ok trivial hK hP hD hS hA [0, 1, 2] rfl (by decide) [0] rfl 0 4 rfl rfl rfl) rfl rfl hl.1 rfl (lv_room (Nat.le_of_ble_eq_true rfl)) d_M_logarithmOf_32 ⟨Nat.le_of_ble_eq_true rfl, Nat.le_of_ble_eq_true rfl⟩) hP hD hS hA [0, 1, 2] rfl (by decide) (fun _ => rfl) (fun z_1 H locs hz_1 hP hD hS => ?_)
  have hP : va_P (dC, dI) cl9 [(mx, .inr (4, [.int th, .long sd, .int nt, .ref ro, .ref pl, .ref vl, .int (nI f), .ref pa, .ref pr])), (pa, .inl (cL, 240, .inr (.inl z_1.1))), (pr, .inl (cL, 48, .inr (.inl z_1.2)))] H := hP
  have hD : va_D A [(mx, .inr (4, [.int th, .long sd, .int nt, .ref ro, .ref pl, .ref vl, .int (nI f), .ref pa, .ref pr])), (pa, .inl (cL, 240, .inr (.inl z_1.1))), (pr, .inl (cL, 48, .inr (.inl z_1.2)))] := hD
  obtain ⟨g_2, p_3⟩ := z_1
  have hg_2 : g_2 = (ra_end (ra_it f 1 3 g p9 k1)).1 := congrArg Prod.fst hz_1
  have hp_3 : p_3 = (ra_end (ra_it f 1 3 g p9 k1)).2 := congrArg Prod.snd hz_1
  have hP : va_P (dC, dI) cl9 [(mx, .inr (4, [.int th, .long sd, .int nt, .ref ro, .ref pl, .ref vl, .int (nI f), .ref pa, .ref pr])), (pa, .inl (cL, 240, .inr (.inl g_2))), (pr, .inl (cL, 48, .inr (.inl p_3)))] H := hP
  have hD : va_D A [(mx, .inr (4, [.int th, .long sd, .int nt, .ref ro, .ref pl, .ref vl, .int (nI f), .ref pa, .ref pr])), (pa, .inl (cL, 240, .inr (.inl g_2))), (pr, .inl (cL, 48, .inr (.inl p_3)))] := hD
  refine lv_aload_n hx hb d_M_logarithmOf_35 rfl (lv_at hl 0 rfl) ?_
  refine lv_iconst (v := 0) hx hb d_M_logarithmOf_36 (by decide) ?_
  refine lv_iload hx hb d_M_logarithmOf_37 (lv_at hl 3 rfl) ?_
  refine lv_i2l hx hb d_M_logarithmOf_39 rfl ?_
  refine cs_callv (va_runV (As := [.int 0, .long (((nI k) : Int32).toInt64)]) (rest := []) ⟨hx, hb, hml, hown, ha⟩ (c_M_times l dC dI mx th sd nt ro pl vl f pa pr cL g_2 0 (nI k).toInt64 (by omega) _) (cwV 2 ha g_M_M_times rfl rfl rfl (by decide +kernel) ⟨Nat.le_of_ble_eq_true rfl, Nat.le_of_ble_eq_true rfl⟩) (ct_preV ct_G0ok trivial hK hP hD hS hA [0, 1] rfl (by decide) [0] rfl 0 4 rfl rfl rfl) rfl rfl hl.1 rfl (lv_room (Nat.le_of_ble_eq_true rfl)) d_M_logarithmOf_40 ⟨Nat.le_of_ble_eq_true rfl, Nat.le_of_ble_eq_true rfl⟩) hP hD hS hA [0, 1] rfl (by decide) (fun _ => rfl) (fun g_4 H locs hg_4 hP hD hS => ?_)
  have hP : va_P (dC, dI) cl9 [(mx, .inr (4, [.int th, .long sd, .int nt, .ref ro, .ref pl, .ref vl, .int (nI f), .ref pa, .ref pr])), (pa, .inl (cL, 240, .inr (.inl g_4))), (pr, .inl (cL, 48, .inr (.inl p_3)))] H := hP
  have hD : va_D A [(mx, .inr (4, [.int th, .long sd, .int nt, .ref ro, .ref pl, .ref vl, .int (nI f), .ref pa, .ref pr])), (pa, .inl (cL, 240, .inr (.inl g_4))), (pr, .inl (cL, 48, .inr (.inl p_3)))] := hD
  have hg_4 : g_4 = mr_tim 0 (nI k).toInt64 g_2 := hg_4.trans (ir_eq _).symm
  refine lv_aload_n hx hb d_M_logarithmOf_43 rfl (lv_at hl 0 rfl) ?_
  refine lv_iconst (v := 3) hx hb d_M_logarithmOf_44 (by decide) ?_
  refine lv_iconst (v := 0) hx hb d_M_logarithmOf_45 (by decide) ?_
  refine cs_callv (va_runV (As := [.int 3, .int 0]) (rest := []) ⟨hx, hb, hml, hown, ha⟩ (c_M_copy l dC dI mx th sd nt ro pl vl f pa pr cL g_4 3 0 (by omega) (by omega) _) (cwV 2 ha g_M_M_copy rfl rfl rfl (by decide +kernel) ⟨Nat.le_of_ble_eq_true rfl, Nat.le_of_ble_eq_true rfl⟩) (ct_preV ct_G0ok trivial hK hP hD hS hA [0, 1] rfl (by decide) [0] rfl 0 4 rfl rfl rfl) rfl rfl hl.1 rfl (lv_room (Nat.le_of_ble_eq_true rfl)) d_M_logarithmOf_46 ⟨Nat.le_of_ble_eq_true rfl, Nat.le_of_ble_eq_true rfl⟩) hP hD hS hA [0, 1] rfl (by decide) (fun _ => rfl) (fun g_5 H locs hg_5 hP hD hS => ?_)
  have hP : va_P (dC, dI) cl9 [(mx, .inr (4, [.int th, .long sd, .int nt, .ref ro, .ref pl, .ref vl, .int (nI f), .ref pa, .ref pr])), (pa, .inl (cL, 240, .inr (.inl g_5))), (pr, .inl (cL, 48, .inr (.inl p_3)))] H := hP
  have hD : va_D A [(mx, .inr (4, [.int th, .long sd, .int nt, .ref ro, .ref pl, .ref vl, .int (nI f), .ref pa, .ref pr])), (pa, .inl (cL, 240, .inr (.inl g_5))), (pr, .inl (cL, 48, .inr (.inl p_3)))] := hD
  have hg_5 : g_5 = mr_cp 3 0 g_4 := hg_5.trans (ir_eq _).symm
  have eg : g_5 = (lo_a f k g p9 k1).1 := by rw [hg_5, hg_4, hg_2]; rfl
  have ep : p_3 = (lo_a f k g p9 k1).2 := hp_3
  refine lv_aload_n hx hb d_M_logarithmOf_49 rfl (lv_at hl 0 rfl) ?_
  refine lv_lload_n hx hb d_M_logarithmOf_50 rfl (lv_at hl 1 rfl) ?_
  refine lv_lload_n hx hb d_M_logarithmOf_51 rfl (lv_at hl 2 rfl) ?_
  refine lv_lsub hx hb d_M_logarithmOf_52 ?_
  refine lv_lload_n hx hb d_M_logarithmOf_53 rfl (lv_at hl 1 rfl) ?_
  refine lv_lload_n hx hb d_M_logarithmOf_54 rfl (lv_at hl 2 rfl) ?_
  refine lv_ladd hx hb d_M_logarithmOf_55 ?_
  refine cs_callv (va_runV (As := [.long (v - (lg_two k)), .long (v + (lg_two k))]) (rest := []) ⟨hx, hb, hml, hown, ha⟩ (c_M_raised l dC dI mx th sd nt ro pl vl f pa pr cL g_5 p_3 (v - lg_two k) (v + lg_two k) hf9 hvt k2 hkk2 (by rw [eg, ep]; exact hk2) (by rw [eg, ep]; exact hz2) _) (cwV 2 ha g_M_M_raised rfl rfl rfl (by decide +kernel) ⟨Nat.le_of_ble_eq_true rfl, Nat.le_of_ble_eq_true rfl⟩) (ct_preV ct_G0ok trivial hK hP hD hS hA [0, 1, 2] rfl (by decide) [0] rfl 0 4 rfl rfl rfl) rfl rfl hl.1 rfl (lv_room (Nat.le_of_ble_eq_true rfl)) d_M_logarithmOf_56 ⟨Nat.le_of_ble_eq_true rfl, Nat.le_of_ble_eq_true rfl⟩) hP hD hS hA [0, 1, 2] rfl (by decide) (fun _ => rfl) (fun z_6 H locs hz_6 hP hD hS => ?_)
  have hP : va_P (dC, dI) cl9 [(mx, .inr (4, [.int th, .long sd, .int nt, .ref ro, .ref pl, .ref vl, .int (nI f), .ref pa, .ref pr])), (pa, .inl (cL, 240, .inr (.inl z_6.1))), (pr, .inl (cL, 48, .inr (.inl z_6.2)))] H := hP
  have hD : va_D A [(mx, .inr (4, [.int th, .long sd, .int nt, .ref ro, .ref pl, .ref vl, .int (nI f), .ref pa, .ref pr])), (pa, .inl (cL, 240, .inr (.inl z_6.1))), (pr, .inl (cL, 48, .inr (.inl z_6.2)))] := hD
  obtain ⟨g_7, p_8⟩ := z_6
  have hg_7 : g_7 = (ra_end (ra_it f (v - lg_two k) (v + lg_two k) g_5 p_3 k2)).1 := congrArg Prod.fst hz_6
  have hp_8 : p_8 = (ra_end (ra_it f (v - lg_two k) (v + lg_two k) g_5 p_3 k2)).2 := congrArg Prod.snd hz_6
  have hP : va_P (dC, dI) cl9 [(mx, .inr (4, [.int th, .long sd, .int nt, .ref ro, .ref pl, .ref vl, .int (nI f), .ref pa, .ref pr])), (pa, .inl (cL, 240, .inr (.inl g_7))), (pr, .inl (cL, 48, .inr (.inl p_8)))] H := hP
  have hD : va_D A [(mx, .inr (4, [.int th, .long sd, .int nt, .ref ro, .ref pl, .ref vl, .int (nI f), .ref pa, .ref pr])), (pa, .inl (cL, 240, .inr (.inl g_7))), (pr, .inl (cL, 48, .inr (.inl p_8)))] := hD
  refine lv_aload_n hx hb d_M_logarithmOf_59 rfl (lv_at hl 0 rfl) ?_
  refine lv_iconst (v := 0) hx hb d_M_logarithmOf_60 (by decide) ?_
  refine lv_iconst (v := 3) hx hb d_M_logarithmOf_61 (by decide) ?_
  refine cs_callv (va_runV (As := [.int 0, .int 3]) (rest := []) ⟨hx, hb, hml, hown, ha⟩ (c_M_add l dC dI mx th sd nt ro pl vl f pa pr cL g_7 0 3 (by omega) (by omega) _) (cwV 2 ha g_M_M_add rfl rfl rfl (by decide +kernel) ⟨Nat.le_of_ble_eq_true rfl, Nat.le_of_ble_eq_true rfl⟩) (ct_preV ct_G0ok trivial hK hP hD hS hA [0, 1] rfl (by decide) [0] rfl 0 4 rfl rfl rfl) rfl rfl hl.1 rfl (lv_room (Nat.le_of_ble_eq_true rfl)) d_M_logarithmOf_62 ⟨Nat.le_of_ble_eq_true rfl, Nat.le_of_ble_eq_true rfl⟩) hP hD hS hA [0, 1] rfl (by decide) (fun _ => rfl) (fun g_9 H locs hg_9 hP hD hS => ?_)
  have hP : va_P (dC, dI) cl9 [(mx, .inr (4, [.int th, .long sd, .int nt, .ref ro, .ref pl, .ref vl, .int (nI f), .ref pa, .ref pr])), (pa, .inl (cL, 240, .inr (.inl g_9))), (pr, .inl (cL, 48, .inr (.inl p_8)))] H := hP
  have hD : va_D A [(mx, .inr (4, [.int th, .long sd, .int nt, .ref ro, .ref pl, .ref vl, .int (nI f), .ref pa, .ref pr])), (pa, .inl (cL, 240, .inr (.inl g_9))), (pr, .inl (cL, 48, .inr (.inl p_8)))] := hD
  have hg_9 : g_9 = mr_add 0 3 g_7 := hg_9.trans (ir_eq _).symm
  exact ct_vret hF d_M_logarithmOf_65 (g_9, p_8) (by rw [hg_9, hp_8, hg_7, eg, ep]; rfl) (hP.sub [0, 1, 2] rfl) (hD.sub [0, 1, 2] (by decide) rfl) hK hS
