theorem ct_join {p : Program} {l : Launch} {e : Env} {R : Room} {s : State} {m : MethodId} {args : Array Value} {below : List Frame} {meth : Method} {c : Code} {H : Heap} {locs : List Loc} {cells slots : Nat} {Q : State → Prop} {D : va_G} {cl : List vw_C} {A : Nat → Prop} {H0 : Heap} {α : Type} {Pm : α → Prop} {ww : α → va_W} {nL : Nat} {lvl : List (Nat × Value)} {pc9 : Nat} {g : JFrame}
    (hj : ∀ (z9 : α) (H : Heap) (locs : List Loc) (ls : Array Slot), Pm z9 → va_P D cl (ww z9) H → va_D A (ww z9) → va_S A H0 H locs → lv_has ls nL lvl → W p l e R s m args below meth c H locs cells slots Q (F0 m pc9 ls []))
    (k : (∀ (z9 : α) (H : Heap) (locs : List Loc) (ls : Array Slot), Pm z9 → va_P D cl (ww z9) H → va_D A (ww z9) → va_S A H0 H locs → lv_has ls nL lvl → W p l e R s m args below meth c H locs cells slots Q (F0 m pc9 ls [])) → W p l e R s m args below meth c H locs cells slots Q g) : W p l e R s m args below meth c H locs cells slots Q g := k hj
def pt_t (y : Int32) : Int64 := pu_abl y.toInt64
def pt_le (y x : Int32) : Int64 := if pt_t x < pt_t y then pt_t x else pt_t y
def pt_mo (y x : Int32) : Int64 := if pt_t y < pt_t x then pt_t x else pt_t y
def rk_pt1 (y x : Int32) (u : rk_U) : rk_U := if pt_t y ≤ pt_t x then u else rk_add 0 3 (rk_lim 3 kc_H 7 0 (rk_neg 0 u))
def rk_pt2 (x : Int32) (u : rk_U) : rk_U := if 0 ≤ x then u else rk_add 0 3 (rk_scl 3 2 (rk_lim 3 kc_H 7 0 (rk_neg 0 u)))
def rk_pt3 (y : Int32) (u : rk_U) : rk_U := if 0 ≤ y then u else rk_neg 0 u
def rk_point (y x : Int32) (u : rk_U) : rk_U := rk_pt3 y (rk_pt2 x (rk_pt1 y x (rk_flat (pt_le y x) (pt_mo y x) u)))
set_option maxHeartbeats 1000000 in
set_option maxRecDepth 100000 in
/-- the steep angle -/
theorem sg_pt1 {p : Program} {l : Launch} {e : Env} {R : Room} {s : State} {m : MethodId} {args : Array Value} {below : List Frame} {meth : Method} {c : Code} {Q : State → Prop} {A : Nat → Prop} {cells slots : Nat} {dC : Nat → ClassId} {dI : Nat → Nat → Nat} {ad : Nat → Nat} {cL : ClassId} {v : rk_U} {y : Int32} {x : Int32} {tl : Nat} {th : Nat} {ta : Nat} (hF : ct_F p s m meth c b_K_pointTo none 7 w_K_pointTo y_K_pointTo args) (hA : ∀ q, s.heap.size ≤ q → A q) (hK : va_K (dC, dI) cl9 [(cL, .long)] s) (hRf : 3 ≤ R.frames) (hRl : 77 ≤ R.locals) (hRc : cells ≤ R.cells) (hRs : slots ≤ R.slots) (hG : kg_G tl th ta A s s.heap)
    (K : ∀ (z9 : rk_U) (H : Heap) (locs : List Loc) (ls : Array Slot), z9 = rk_pt1 y x v → va_P (dC, dI) cl9 (rk_w ad cL z9) H → va_D A (rk_w ad cL z9) → va_S A s.heap H locs → lv_has ls 7 [(0, .ref (ad 0)), (1, .int y), (2, .int x)] → W p l e R s m args below meth c H locs cells slots Q (F0 m 65 ls [])) :
    ∀ (H : Heap) (locs : List Loc) (ls : Array Slot), va_P (dC, dI) cl9 (rk_w ad cL v) H → va_D A (rk_w ad cL v) → va_S A s.heap H locs → lv_has ls 7 [(0, .ref (ad 0)), (1, .int y), (2, .int x), (3, .long (pt_t y)), (5, .long (pt_t x))] → W p l e R s m args below meth c H locs cells slots Q (F0 m 29 ls []) := by
  obtain ⟨hx, hb, hr, hml, hts, hown, hlocks, hnm⟩ := id hF
  have hown : s.vm.findClass R_K = some m.cls := hown
  have ha : ∀ w ∈ al_K, w.before args s = true := fun w h => hts w (List.mem_cons_of_mem _ h)
  intro H locs ls hP hD hS hl
  refine lv_lload_n hx hb d_K_pointTo_29 rfl (lv_at hl 3 rfl) ?_
  refine lv_lload hx hb d_K_pointTo_30 (lv_at hl 4 rfl) ?_
  refine ct_jle (tgt := 65) hx hb d_K_pointTo_32 d_K_pointTo_33 (by decide) (fun h1 => ?_) (fun h1 => ?_)
  · exact K v _ _ _ (if_pos h1).symm hP hD hS (lv_sub hl [0, 1, 2] rfl)
  · refine lv_aload_n hx hb d_K_pointTo_36 rfl (lv_at hl 0 rfl) ?_
    refine va_get (D := (dC, dI)) (ci := 1) (v := .ref (ad 1)) (C := R_K) (T := F_K) (N := 5) hx hb ha ui_K hown hK hP 0 rfl rfl 0 (by decide) (ha _ wm_K_6) (fun _ h9 => h9) rfl d_K_pointTo_37 ?_
    refine cs_callv (va_runV (As := []) (rest := []) ⟨hx, hb, hml, hown, ha⟩ (c_W_negate l dC dI (ad 1) (ad 2) (ad 3) cL (v 0) _) (cwV 0 ha g_K_W_negate rfl rfl rfl (by decide +kernel) ⟨Nat.le_trans (Nat.le_of_ble_eq_true rfl) hRf, Nat.le_trans (Nat.le_of_ble_eq_true rfl) hRl⟩) (ct_preV ct_G0ok trivial hK hP hD hS hA [1, 2] rfl (by decide) [0] rfl 1 0 rfl rfl rfl) rfl rfl hl.1 rfl (lv_room (Nat.le_of_ble_eq_true rfl)) d_K_pointTo_40 ⟨hRc, hRs⟩) hP hD hS hA [1, 2] rfl (by decide) (fun _ => rfl) (fun u7 H locs hw hP hD hS => ?_)
    obtain rfl : u7 = _ := hw.trans (ir_eq _).symm
    obtain ⟨hP, hD⟩ : va_P (dC, dI) cl9 (rk_w ad cL (rk_neg 0 v)) H ∧ va_D A (rk_w ad cL (rk_neg 0 v)) := ct_eqP (rkw1_0 ad cL v _) hP hD
    generalize hg_u_1 : rk_neg 0 v = u_1 at hP hD
    refine lv_aload_n hx hb d_K_pointTo_43 rfl (lv_at hl 0 rfl) ?_
    refine va_get (D := (dC, dI)) (ci := 1) (v := .ref (ad 10)) (C := R_K) (T := F_K) (N := 5) hx hb ha ui_K hown hK hP 0 rfl rfl 3 (by decide) (ha _ wm_K_9) (fun _ h9 => h9) rfl d_K_pointTo_44 ?_
    refine va_gets (C := "HouseFunctions$Reckoner") (n := "HALF_PI") (d := "[J") (v := .ref th) hx hb hG.2.1.1 hS hown (ha _ wm_K_52) (fun _ h9 => h9) d_K_pointTo_47 ?_
    refine lv_iconst (v := 0) hx hb d_K_pointTo_50 (by decide) ?_
    refine cs_callv (va_runV (As := [.ref th, .int 0]) (rest := []) ⟨hx, hb, hml, hown, ha⟩ (c_W_loadLimbs l dC dI (ad 10) (ad 11) (ad 12) cL (u_1 6) th 7 (by omega) kc_H 0 _) (cwV 2 ha g_K_W_loadLimbs rfl rfl rfl (by decide +kernel) ⟨Nat.le_trans (Nat.le_of_ble_eq_true rfl) hRf, Nat.le_trans (Nat.le_of_ble_eq_true rfl) hRl⟩) (ct_preV (ld_Gok th 7 kc_H) hG.2.1.2 hK hP hD hS hA [10, 11] rfl (by decide) [0] rfl 10 0 rfl rfl rfl) rfl rfl hl.1 rfl (lv_room (Nat.le_of_ble_eq_true rfl)) d_K_pointTo_51 ⟨hRc, hRs⟩) hP hD hS hA [10, 11] rfl (by decide) (fun _ => rfl) (fun u7 H locs hw hP hD hS => ?_)
    obtain rfl : u7 = _ := hw.trans (ir_eq _).symm
    obtain ⟨hP, hD⟩ : va_P (dC, dI) cl9 (rk_w ad cL (rk_lim 3 kc_H 7 0 u_1)) H ∧ va_D A (rk_w ad cL (rk_lim 3 kc_H 7 0 u_1)) := ct_eqP (rkw1_3 ad cL u_1 _) hP hD
    generalize hg_u_2 : rk_lim 3 kc_H 7 0 u_1 = u_2 at hP hD
    refine lv_aload_n hx hb d_K_pointTo_54 rfl (lv_at hl 0 rfl) ?_
    refine va_get (D := (dC, dI)) (ci := 1) (v := .ref (ad 1)) (C := R_K) (T := F_K) (N := 5) hx hb ha ui_K hown hK hP 0 rfl rfl 0 (by decide) (ha _ wm_K_6) (fun _ h9 => h9) rfl d_K_pointTo_55 ?_
    refine lv_aload_n hx hb d_K_pointTo_58 rfl (lv_at hl 0 rfl) ?_
    refine va_get (D := (dC, dI)) (ci := 1) (v := .ref (ad 10)) (C := R_K) (T := F_K) (N := 5) hx hb ha ui_K hown hK hP 0 rfl rfl 3 (by decide) (ha _ wm_K_9) (fun _ h9 => h9) rfl d_K_pointTo_59 ?_
    refine cs_callv (va_runV (As := [.ref (ad 10)]) (rest := []) ⟨hx, hb, hml, hown, ha⟩ (c_W_add l dC dI (ad 1) (ad 2) (ad 3) (ad 10) (ad 11) (ad 12) cL (u_2 0) (u_2 6) _) (cwV 1 ha g_K_W_add rfl rfl rfl (by decide +kernel) ⟨Nat.le_trans (Nat.le_of_ble_eq_true rfl) hRf, Nat.le_trans (Nat.le_of_ble_eq_true rfl) hRl⟩) (ct_preV ct_G0ok trivial hK hP hD hS hA [1, 2, 10, 11] rfl (by decide) [0] rfl 1 0 rfl rfl rfl) rfl rfl hl.1 rfl (lv_room (Nat.le_of_ble_eq_true rfl)) d_K_pointTo_62 ⟨hRc, hRs⟩) hP hD hS hA [1, 2, 10, 11] rfl (by decide) (fun _ => rfl) (fun u7 H locs hw hP hD hS => ?_)
    obtain rfl : u7 = _ := hw.trans (ir_eq _).symm
    obtain ⟨hP, hD⟩ : va_P (dC, dI) cl9 (rk_w ad cL (rk_add 0 3 u_2)) H ∧ va_D A (rk_w ad cL (rk_add 0 3 u_2)) := ct_eqP (rkw2_0_3 ad cL u_2 _) hP hD
    generalize hg_u_3 : rk_add 0 3 u_2 = u_3 at hP hD
    exact K u_3 _ _ _ (by subst hg_u_3; subst hg_u_2; subst hg_u_1; exact (if_neg h1).symm) hP hD hS (lv_sub hl [0, 1, 2] rfl)
set_option maxHeartbeats 1000000 in
set_option maxRecDepth 100000 in
/-- the angle to the left -/
theorem sg_pt2 {p : Program} {l : Launch} {e : Env} {R : Room} {s : State} {m : MethodId} {args : Array Value} {below : List Frame} {meth : Method} {c : Code} {Q : State → Prop} {A : Nat → Prop} {cells slots : Nat} {dC : Nat → ClassId} {dI : Nat → Nat → Nat} {ad : Nat → Nat} {cL : ClassId} {v : rk_U} {y : Int32} {x : Int32} {tl : Nat} {th : Nat} {ta : Nat} (hF : ct_F p s m meth c b_K_pointTo none 7 w_K_pointTo y_K_pointTo args) (hA : ∀ q, s.heap.size ≤ q → A q) (hK : va_K (dC, dI) cl9 [(cL, .long)] s) (hRf : 3 ≤ R.frames) (hRl : 77 ≤ R.locals) (hRc : cells ≤ R.cells) (hRs : slots ≤ R.slots) (hG : kg_G tl th ta A s s.heap)
    (K : ∀ (z9 : rk_U) (H : Heap) (locs : List Loc) (ls : Array Slot), z9 = rk_pt2 x v → va_P (dC, dI) cl9 (rk_w ad cL z9) H → va_D A (rk_w ad cL z9) → va_S A s.heap H locs → lv_has ls 7 [(0, .ref (ad 0)), (1, .int y)] → W p l e R s m args below meth c H locs cells slots Q (F0 m 108 ls [])) :
    ∀ (H : Heap) (locs : List Loc) (ls : Array Slot), va_P (dC, dI) cl9 (rk_w ad cL v) H → va_D A (rk_w ad cL v) → va_S A s.heap H locs → lv_has ls 7 [(0, .ref (ad 0)), (1, .int y), (2, .int x)] → W p l e R s m args below meth c H locs cells slots Q (F0 m 65 ls []) := by
  obtain ⟨hx, hb, hr, hml, hts, hown, hlocks, hnm⟩ := id hF
  have hown : s.vm.findClass R_K = some m.cls := hown
  have ha : ∀ w ∈ al_K, w.before args s = true := fun w h => hts w (List.mem_cons_of_mem _ h)
  intro H locs ls hP hD hS hl
  refine lv_iload_n hx hb d_K_pointTo_65 rfl (lv_at hl 2 rfl) ?_
  refine lv_if_ge (tgt := 108) hx hb d_K_pointTo_66 (by decide) (fun h1 => ?_) (fun h1 => ?_)
  · exact K v _ _ _ (if_pos h1).symm hP hD hS (lv_sub hl [0, 1] rfl)
  · refine lv_aload_n hx hb d_K_pointTo_69 rfl (lv_at hl 0 rfl) ?_
    refine va_get (D := (dC, dI)) (ci := 1) (v := .ref (ad 1)) (C := R_K) (T := F_K) (N := 5) hx hb ha ui_K hown hK hP 0 rfl rfl 0 (by decide) (ha _ wm_K_6) (fun _ h9 => h9) rfl d_K_pointTo_70 ?_
    refine cs_callv (va_runV (As := []) (rest := []) ⟨hx, hb, hml, hown, ha⟩ (c_W_negate l dC dI (ad 1) (ad 2) (ad 3) cL (v 0) _) (cwV 0 ha g_K_W_negate rfl rfl rfl (by decide +kernel) ⟨Nat.le_trans (Nat.le_of_ble_eq_true rfl) hRf, Nat.le_trans (Nat.le_of_ble_eq_true rfl) hRl⟩) (ct_preV ct_G0ok trivial hK hP hD hS hA [1, 2] rfl (by decide) [0] rfl 1 0 rfl rfl rfl) rfl rfl hl.1 rfl (lv_room (Nat.le_of_ble_eq_true rfl)) d_K_pointTo_73 ⟨hRc, hRs⟩) hP hD hS hA [1, 2] rfl (by decide) (fun _ => rfl) (fun u7 H locs hw hP hD hS => ?_)
    obtain rfl : u7 = _ := hw.trans (ir_eq _).symm
    obtain ⟨hP, hD⟩ : va_P (dC, dI) cl9 (rk_w ad cL (rk_neg 0 v)) H ∧ va_D A (rk_w ad cL (rk_neg 0 v)) := ct_eqP (rkw1_0 ad cL v _) hP hD
    generalize hg_u_4 : rk_neg 0 v = u_4 at hP hD
    refine lv_aload_n hx hb d_K_pointTo_76 rfl (lv_at hl 0 rfl) ?_
    refine va_get (D := (dC, dI)) (ci := 1) (v := .ref (ad 10)) (C := R_K) (T := F_K) (N := 5) hx hb ha ui_K hown hK hP 0 rfl rfl 3 (by decide) (ha _ wm_K_9) (fun _ h9 => h9) rfl d_K_pointTo_77 ?_
    refine va_gets (C := "HouseFunctions$Reckoner") (n := "HALF_PI") (d := "[J") (v := .ref th) hx hb hG.2.1.1 hS hown (ha _ wm_K_52) (fun _ h9 => h9) d_K_pointTo_80 ?_
    refine lv_iconst (v := 0) hx hb d_K_pointTo_83 (by decide) ?_
    refine cs_callv (va_runV (As := [.ref th, .int 0]) (rest := []) ⟨hx, hb, hml, hown, ha⟩ (c_W_loadLimbs l dC dI (ad 10) (ad 11) (ad 12) cL (u_4 6) th 7 (by omega) kc_H 0 _) (cwV 2 ha g_K_W_loadLimbs rfl rfl rfl (by decide +kernel) ⟨Nat.le_trans (Nat.le_of_ble_eq_true rfl) hRf, Nat.le_trans (Nat.le_of_ble_eq_true rfl) hRl⟩) (ct_preV (ld_Gok th 7 kc_H) hG.2.1.2 hK hP hD hS hA [10, 11] rfl (by decide) [0] rfl 10 0 rfl rfl rfl) rfl rfl hl.1 rfl (lv_room (Nat.le_of_ble_eq_true rfl)) d_K_pointTo_84 ⟨hRc, hRs⟩) hP hD hS hA [10, 11] rfl (by decide) (fun _ => rfl) (fun u7 H locs hw hP hD hS => ?_)
    obtain rfl : u7 = _ := hw.trans (ir_eq _).symm
    obtain ⟨hP, hD⟩ : va_P (dC, dI) cl9 (rk_w ad cL (rk_lim 3 kc_H 7 0 u_4)) H ∧ va_D A (rk_w ad cL (rk_lim 3 kc_H 7 0 u_4)) := ct_eqP (rkw1_3 ad cL u_4 _) hP hD
    generalize hg_u_5 : rk_lim 3 kc_H 7 0 u_4 = u_5 at hP hD
    refine lv_aload_n hx hb d_K_pointTo_87 rfl (lv_at hl 0 rfl) ?_
    refine va_get (D := (dC, dI)) (ci := 1) (v := .ref (ad 10)) (C := R_K) (T := F_K) (N := 5) hx hb ha ui_K hown hK hP 0 rfl rfl 3 (by decide) (ha _ wm_K_9) (fun _ h9 => h9) rfl d_K_pointTo_88 ?_
    refine lv_ldc2 (v := 2) hx hb hown (ha _ wm_K_35) d_K_pointTo_91 ?_
    refine cs_callv (va_runV (As := [.long 2]) (rest := []) ⟨hx, hb, hml, hown, ha⟩ (c_W_scale l dC dI (ad 10) (ad 11) (ad 12) cL (u_5 6) 2 _) (cwV 1 ha g_K_W_scale rfl rfl rfl (by decide +kernel) ⟨Nat.le_trans (Nat.le_of_ble_eq_true rfl) hRf, Nat.le_trans (Nat.le_of_ble_eq_true rfl) hRl⟩) (ct_preV ct_G0ok trivial hK hP hD hS hA [10, 11] rfl (by decide) [0] rfl 10 0 rfl rfl rfl) rfl rfl hl.1 rfl (lv_room (Nat.le_of_ble_eq_true rfl)) d_K_pointTo_94 ⟨hRc, hRs⟩) hP hD hS hA [10, 11] rfl (by decide) (fun _ => rfl) (fun u7 H locs hw hP hD hS => ?_)
    obtain rfl : u7 = _ := hw.trans (ir_eq _).symm
    obtain ⟨hP, hD⟩ : va_P (dC, dI) cl9 (rk_w ad cL (rk_scl 3 2 u_5)) H ∧ va_D A (rk_w ad cL (rk_scl 3 2 u_5)) := ct_eqP (rkw1_3 ad cL u_5 _) hP hD
    generalize hg_u_6 : rk_scl 3 2 u_5 = u_6 at hP hD
    refine lv_aload_n hx hb d_K_pointTo_97 rfl (lv_at hl 0 rfl) ?_
    refine va_get (D := (dC, dI)) (ci := 1) (v := .ref (ad 1)) (C := R_K) (T := F_K) (N := 5) hx hb ha ui_K hown hK hP 0 rfl rfl 0 (by decide) (ha _ wm_K_6) (fun _ h9 => h9) rfl d_K_pointTo_98 ?_
    refine lv_aload_n hx hb d_K_pointTo_101 rfl (lv_at hl 0 rfl) ?_
    refine va_get (D := (dC, dI)) (ci := 1) (v := .ref (ad 10)) (C := R_K) (T := F_K) (N := 5) hx hb ha ui_K hown hK hP 0 rfl rfl 3 (by decide) (ha _ wm_K_9) (fun _ h9 => h9) rfl d_K_pointTo_102 ?_
    refine cs_callv (va_runV (As := [.ref (ad 10)]) (rest := []) ⟨hx, hb, hml, hown, ha⟩ (c_W_add l dC dI (ad 1) (ad 2) (ad 3) (ad 10) (ad 11) (ad 12) cL (u_6 0) (u_6 6) _) (cwV 1 ha g_K_W_add rfl rfl rfl (by decide +kernel) ⟨Nat.le_trans (Nat.le_of_ble_eq_true rfl) hRf, Nat.le_trans (Nat.le_of_ble_eq_true rfl) hRl⟩) (ct_preV ct_G0ok trivial hK hP hD hS hA [1, 2, 10, 11] rfl (by decide) [0] rfl 1 0 rfl rfl rfl) rfl rfl hl.1 rfl (lv_room (Nat.le_of_ble_eq_true rfl)) d_K_pointTo_105 ⟨hRc, hRs⟩) hP hD hS hA [1, 2, 10, 11] rfl (by decide) (fun _ => rfl) (fun u7 H locs hw hP hD hS => ?_)
    obtain rfl : u7 = _ := hw.trans (ir_eq _).symm
    obtain ⟨hP, hD⟩ : va_P (dC, dI) cl9 (rk_w ad cL (rk_add 0 3 u_6)) H ∧ va_D A (rk_w ad cL (rk_add 0 3 u_6)) := ct_eqP (rkw2_0_3 ad cL u_6 _) hP hD
    generalize hg_u_7 : rk_add 0 3 u_6 = u_7 at hP hD
    exact K u_7 _ _ _ (by subst hg_u_7; subst hg_u_6; subst hg_u_5; subst hg_u_4; exact (if_neg h1).symm) hP hD hS (lv_sub hl [0, 1] rfl)
set_option maxHeartbeats 1000000 in
set_option maxRecDepth 100000 in
/-- the angle of a point -/
theorem c_K_pointTo (l : Launch) (dC : Nat → ClassId) (dI : Nat → Nat → Nat) (ad : Nat → Nat) (cL : ClassId) (u : rk_U) (y x : Int32) (tl th ta : Nat) (sz : Nat) : ct_V l y_K_pointTo w_K_pointTo { frames := 5, cells := 0, slots := 0, locals := 129 } (dC, dI) cl9 [(cL, .long)] (kg_G tl th ta) [.ref (ad 0), .int y, .int x] (rk_w ad cL u) sz (S := rk_U) (fun u' : rk_U => u' = rk_point y x u) (fun _ : rk_U => [(cL, .long)]) (fun u' : rk_U => rk_w ad cL u') 0 0 := by
  refine ct_of (Qf := fun A => va_Qv (fun u' : rk_U => u' = rk_point y x u) (ct_B (S := rk_U) (dC, dI) cl9 (fun _ : rk_U => [(cL, .long)]) A (fun u' : rk_U => rk_w ad cL u')) A) (cc := b_K_pointTo) (maxL := 7) (ret := none) (by decide) rfl (Nat.le_of_ble_eq_true rfl) ?_
  intro p e s m below meth c A ls hF hA hP hK hD hG hS hl
  obtain ⟨hx, hb, hr, hml, hts, hown, hlocks, hnm⟩ := id hF
  have hown : s.vm.findClass R_K = some m.cls := hown
  have ha : ∀ w ∈ al_K, w.before [.ref (ad 0), .int y, .int x].toArray s = true := fun w h => hts w (List.mem_cons_of_mem _ h)
  have hl : lv_has ls 7 [(0, .ref (ad 0)), (1, .int y), (2, .int x)] := hl
  refine lv_iload_n hx hb d_K_pointTo_0 rfl (lv_at hl 1 rfl) ?_
  refine lv_i2l hx hb d_K_pointTo_1 rfl ?_
  refine cs_calll (va_runS (As := [.long ((y : Int32).toInt64)]) (rest := []) ⟨hx, hb, hml, hown, ha⟩ (c_absL l dC dI ((y : Int32).toInt64) _) (va_cwS 1 ha g_K_Math_abs_JJ rfl rfl rfl (by decide +kernel) ⟨Nat.le_of_ble_eq_true rfl, Nat.le_of_ble_eq_true rfl⟩) (ct_pre ct_G0ok trivial hK hP hD hS hA [] rfl (by decide) [] rfl) rfl rfl hl.1 rfl (lv_room (Nat.le_of_ble_eq_true rfl)) d_K_pointTo_2 ⟨Nat.le_of_ble_eq_true rfl, Nat.le_of_ble_eq_true rfl⟩) hP hD hS hA [] rfl (by decide) (fun _ => rfl) (fun r9 u7 H locs hw hP hD hS => ?_)
  subst hw
  obtain ⟨hP, hD⟩ : va_P (dC, dI) cl9 (rk_w ad cL u) H ∧ va_D A (rk_w ad cL u) := ct_eqP (ct_sets_nil _ _) hP hD
  refine lv_lstore_n (lv' := [(3, .long (pu_abl ((y : Int32).toInt64))), (0, .ref (ad 0)), (1, .int y), (2, .int x)]) hx hb d_K_pointTo_5 rfl hl (by decide) rfl (fun ls hl => ?_)
  refine lv_iload_n hx hb d_K_pointTo_6 rfl (lv_at hl 3 rfl) ?_
  refine lv_i2l hx hb d_K_pointTo_7 rfl ?_
  refine cs_calll (va_runS (As := [.long ((x : Int32).toInt64)]) (rest := []) ⟨hx, hb, hml, hown, ha⟩ (c_absL l dC dI ((x : Int32).toInt64) _) (va_cwS 1 ha g_K_Math_abs_JJ rfl rfl rfl (by decide +kernel) ⟨Nat.le_of_ble_eq_true rfl, Nat.le_of_ble_eq_true rfl⟩) (ct_pre ct_G0ok trivial hK hP hD hS hA [] rfl (by decide) [] rfl) rfl rfl hl.1 rfl (lv_room (Nat.le_of_ble_eq_true rfl)) d_K_pointTo_8 ⟨Nat.le_of_ble_eq_true rfl, Nat.le_of_ble_eq_true rfl⟩) hP hD hS hA [] rfl (by decide) (fun _ => rfl) (fun r9 u7 H locs hw hP hD hS => ?_)
  subst hw
  obtain ⟨hP, hD⟩ : va_P (dC, dI) cl9 (rk_w ad cL u) H ∧ va_D A (rk_w ad cL u) := ct_eqP (ct_sets_nil _ _) hP hD
  refine lv_lstore (lv' := [(5, .long (pu_abl ((x : Int32).toInt64))), (3, .long (pu_abl ((y : Int32).toInt64))), (0, .ref (ad 0)), (1, .int y), (2, .int x)]) hx hb d_K_pointTo_11 hl (by decide) rfl (fun ls hl => ?_)
  have hl : lv_has ls 7 [(0, .ref (ad 0)), (1, .int y), (2, .int x), (3, .long (pt_t y)), (5, .long (pt_t x))] := lv_sub hl [2, 3, 4, 1, 0] rfl
  refine lv_aload_n hx hb d_K_pointTo_13 rfl (lv_at hl 0 rfl) ?_
  refine lv_lload_n hx hb d_K_pointTo_14 rfl (lv_at hl 3 rfl) ?_
  refine lv_lload hx hb d_K_pointTo_15 (lv_at hl 4 rfl) ?_
  refine cs_calll (va_runS (As := [.long (pt_t y), .long (pt_t x)]) (rest := [.ref (ad 0)]) ⟨hx, hb, hml, hown, ha⟩ (c_minL l dC dI (pt_t y) (pt_t x) _) (va_cwS 2 ha g_K_Math_min_JJJ rfl rfl rfl (by decide +kernel) ⟨Nat.le_of_ble_eq_true rfl, Nat.le_of_ble_eq_true rfl⟩) (ct_pre ct_G0ok trivial hK hP hD hS hA [] rfl (by decide) [] rfl) rfl rfl hl.1 rfl (lv_room (Nat.le_of_ble_eq_true rfl)) d_K_pointTo_17 ⟨Nat.le_of_ble_eq_true rfl, Nat.le_of_ble_eq_true rfl⟩) hP hD hS hA [] rfl (by decide) (fun _ => rfl) (fun r9 u7 H locs hw hP hD hS => ?_)
  subst hw
  obtain ⟨hP, hD⟩ : va_P (dC, dI) cl9 (rk_w ad cL u) H ∧ va_D A (rk_w ad cL u) := ct_eqP (ct_sets_nil _ _) hP hD
  refine lv_lload_n hx hb d_K_pointTo_20 rfl (lv_at hl 3 rfl) ?_
  refine lv_lload hx hb d_K_pointTo_21 (lv_at hl 4 rfl) ?_
  refine cs_calll (va_runS (As := [.long (pt_t y), .long (pt_t x)]) (rest := [.long (if (pt_t x) < (pt_t y) then (pt_t x) else (pt_t y)), .ref (ad 0)]) ⟨hx, hb, hml, hown, ha⟩ (c_maxL l dC dI (pt_t y) (pt_t x) _) (va_cwS 2 ha g_K_Math_max_JJJ rfl rfl rfl (by decide +kernel) ⟨Nat.le_of_ble_eq_true rfl, Nat.le_of_ble_eq_true rfl⟩) (ct_pre ct_G0ok trivial hK hP hD hS hA [] rfl (by decide) [] rfl) rfl rfl hl.1 rfl (lv_room (Nat.le_of_ble_eq_true rfl)) d_K_pointTo_23 ⟨Nat.le_of_ble_eq_true rfl, Nat.le_of_ble_eq_true rfl⟩) hP hD hS hA [] rfl (by decide) (fun _ => rfl) (fun r9 u7 H locs hw hP hD hS => ?_)
  subst hw
  obtain ⟨hP, hD⟩ : va_P (dC, dI) cl9 (rk_w ad cL u) H ∧ va_D A (rk_w ad cL u) := ct_eqP (ct_sets_nil _ _) hP hD
  refine cs_callv (va_runV (As := [.long (pt_le y x), .long (pt_mo y x)]) (rest := []) ⟨hx, hb, hml, hown, ha⟩ (c_K_setFlatAngle l dC dI ad cL u (pt_le y x) (pt_mo y x) tl th ta _) (cwV 2 ha g_K_K_setFlatAngle rfl rfl rfl (by decide +kernel) ⟨Nat.le_of_ble_eq_true rfl, Nat.le_of_ble_eq_true rfl⟩) (ct_preV (kg_Gok tl th ta) hG hK hP hD hS hA [0, 1, 2, 3, 4, 5, 6, 7, 8, 9, 10, 11, 12, 13, 14, 15] rfl (by decide) [0] rfl 0 1 rfl rfl rfl) rfl rfl hl.1 rfl (lv_room (Nat.le_of_ble_eq_true rfl)) d_K_pointTo_26 ⟨Nat.le_of_ble_eq_true rfl, Nat.le_of_ble_eq_true rfl⟩) hP hD hS hA [0, 1, 2, 3, 4, 5, 6, 7, 8, 9, 10, 11, 12, 13, 14, 15] rfl (by decide) (fun _ => rfl) (fun u7 H locs hw hP hD hS => ?_)
  subst hw
  obtain ⟨hP, hD⟩ : va_P (dC, dI) cl9 (rk_w ad cL (rk_flat (pt_le y x) (pt_mo y x) u)) H ∧ va_D A (rk_w ad cL (rk_flat (pt_le y x) (pt_mo y x) u)) := ct_eqP (rkwA ad cL u _) hP hD
  generalize hg_u_1 : rk_flat (pt_le y x) (pt_mo y x) u = u_1 at hP hD
  refine sg_pt1 (ad := ad) (cL := cL) (v := u_1) (y := y) (x := x) (tl := tl) (th := th) (ta := ta) hF hA hK (Nat.le_of_ble_eq_true rfl) (Nat.le_of_ble_eq_true rfl) (Nat.le_of_ble_eq_true rfl) (Nat.le_of_ble_eq_true rfl) hG (fun z1 H locs ls hz1 hP hD hS hl => ?_) _ _ _ hP hD hS (lv_sub hl [0, 1, 2, 3, 4] rfl)
  refine sg_pt2 (ad := ad) (cL := cL) (v := z1) (y := y) (x := x) (tl := tl) (th := th) (ta := ta) hF hA hK (Nat.le_of_ble_eq_true rfl) (Nat.le_of_ble_eq_true rfl) (Nat.le_of_ble_eq_true rfl) (Nat.le_of_ble_eq_true rfl) hG (fun z2 H locs ls hz2 hP hD hS hl => ?_) _ _ _ hP hD hS (lv_sub hl [0, 1, 2] rfl)
  refine lv_iload_n hx hb d_K_pointTo_108 rfl (lv_at hl 1 rfl) ?_
  refine lv_if_ge (tgt := 119) hx hb d_K_pointTo_109 (by decide) (fun h3 => ?_) (fun h3 => ?_)
  · exact ct_vret hF d_K_pointTo_119 z2 (by subst hz2; subst hz1; subst hg_u_1; exact (if_pos h3).symm) hP hD hK hS
  · refine lv_aload_n hx hb d_K_pointTo_112 rfl (lv_at hl 0 rfl) ?_
    refine va_get (D := (dC, dI)) (ci := 1) (v := .ref (ad 1)) (C := R_K) (T := F_K) (N := 5) hx hb ha ui_K hown hK hP 0 rfl rfl 0 (by decide) (ha _ wm_K_6) (fun _ h9 => h9) rfl d_K_pointTo_113 ?_
    refine cs_callv (va_runV (As := []) (rest := []) ⟨hx, hb, hml, hown, ha⟩ (c_W_negate l dC dI (ad 1) (ad 2) (ad 3) cL (z2 0) _) (cwV 0 ha g_K_W_negate rfl rfl rfl (by decide +kernel) ⟨Nat.le_of_ble_eq_true rfl, Nat.le_of_ble_eq_true rfl⟩) (ct_preV ct_G0ok trivial hK hP hD hS hA [1, 2] rfl (by decide) [0] rfl 1 0 rfl rfl rfl) rfl rfl hl.1 rfl (lv_room (Nat.le_of_ble_eq_true rfl)) d_K_pointTo_116 ⟨Nat.le_of_ble_eq_true rfl, Nat.le_of_ble_eq_true rfl⟩) hP hD hS hA [1, 2] rfl (by decide) (fun _ => rfl) (fun u7 H locs hw hP hD hS => ?_)
    obtain rfl : u7 = _ := hw.trans (ir_eq _).symm
    obtain ⟨hP, hD⟩ : va_P (dC, dI) cl9 (rk_w ad cL (rk_neg 0 z2)) H ∧ va_D A (rk_w ad cL (rk_neg 0 z2)) := ct_eqP (rkw1_0 ad cL z2 _) hP hD
    generalize hg_u_2 : rk_neg 0 z2 = u_2 at hP hD
    exact ct_vret hF d_K_pointTo_119 u_2 (by subst hg_u_2; subst hz2; subst hz1; subst hg_u_1; exact (if_neg h3).symm) hP hD hK hS
