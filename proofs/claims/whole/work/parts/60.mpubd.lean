set_option maxHeartbeats 4000000 in
set_option maxRecDepth 100000 in
/-- damp(warmth, share) -/
theorem c_M_damp (l : Launch) (dC : Nat → ClassId) (dI : Nat → Nat → Nat) (mx : Nat) (th : Int32) (sd : Int64) (nt : Int32) (ro : Nat) (pl : Nat) (vl : Nat) (f : Nat) (pa : Nat) (pr : Nat) (cL : ClassId) (g : Nat → Int64) (p9 : Nat → Int64) (w9 s9 : Int32) (hf9 : f ≤ 20) (sz : Nat) : ct_L l y_M_damp w_M_damp { frames := 3, cells := 0, slots := 0, locals := 110 } (dC, dI) cl9 [(cL, .long)] ct_G0 [.ref mx, .int w9, .int s9] [(mx, .inr (4, [.int th, .long sd, .int nt, .ref ro, .ref pl, .ref vl, .int (nI f), .ref pa, .ref pr])), (pa, .inl (cL, 240, .inr (.inl g))), (pr, .inl (cL, 48, .inr (.inl p9)))] sz (S := Int32 × Nat × S2) (fun v9 (u : Int32 × Nat × S2) => u.2.1 ≤ 20 ∧ u.1 = th_dp w9 s9 ∧ v9 = vl_dp w9 s9 (g, p9)) (fun _ : Int32 × Nat × S2 => [(cL, .long)]) (fun u : Int32 × Nat × S2 => [(mx, .inr (4, [.int u.1, .long sd, .int nt, .ref ro, .ref pl, .ref vl, .int (nI u.2.1), .ref pa, .ref pr])), (pa, .inl (cL, 240, .inr (.inl u.2.2.1))), (pr, .inl (cL, 48, .inr (.inl u.2.2.2)))]) 0 0 := by
  refine ct_of (Qf := fun A => va_Ql (fun v9 (u : Int32 × Nat × S2) => u.2.1 ≤ 20 ∧ u.1 = th_dp w9 s9 ∧ v9 = vl_dp w9 s9 (g, p9)) (ct_B (S := Int32 × Nat × S2) (dC, dI) cl9 (fun _ : Int32 × Nat × S2 => [(cL, .long)]) A (fun u : Int32 × Nat × S2 => [(mx, .inr (4, [.int u.1, .long sd, .int nt, .ref ro, .ref pl, .ref vl, .int (nI u.2.1), .ref pa, .ref pr])), (pa, .inl (cL, 240, .inr (.inl u.2.2.1))), (pr, .inl (cL, 48, .inr (.inl u.2.2.2)))])) A) (cc := b_M_damp) (maxL := 3) (ret := ((some .long))) (by decide) rfl (Nat.le_of_ble_eq_true rfl) ?_
  intro p e s m below meth c A ls hF hA hP hK hD hG hS hl
  obtain ⟨hx, hb, hr, hml, hts, hown, hlocks, hnm⟩ := id hF
  have hown : s.vm.findClass R_M = some m.cls := hown
  have ha : ∀ w ∈ al_M, w.before [.ref mx, .int w9, .int s9].toArray s = true := fun w h => hts w (List.mem_cons_of_mem _ h)
  have hl : lv_has ls 3 [(0, .ref mx), (1, .int w9), (2, .int s9)] := hl
  refine lv_aload_n hx hb d_M_damp_0 rfl (lv_at hl 0 rfl) ?_
  refine lv_iload_n hx hb d_M_damp_1 rfl (lv_at hl 1 rfl) ?_
  refine cs_calli (va_runS (As := [.int w9]) (rest := [.ref mx]) ⟨hx, hb, hml, hown, ha⟩ (c_M_isWarmth l dC dI w9 _) (va_cwS 1 ha g_M_M_isWarmth rfl rfl rfl (by decide +kernel) ⟨Nat.le_of_ble_eq_true rfl, Nat.le_of_ble_eq_true rfl⟩) (ct_pre ct_G0ok trivial hK hP hD hS hA [] rfl (by decide) [] rfl) rfl rfl hl.1 rfl (lv_room (Nat.le_of_ble_eq_true rfl)) d_M_damp_2 ⟨Nat.le_of_ble_eq_true rfl, Nat.le_of_ble_eq_true rfl⟩) hP hD hS hA [] rfl (by decide) (fun _ => rfl) (fun r1 u7 H locs hr1 hP hD hS => ?_)
  have hP : va_P (dC, dI) cl9 [(mx, .inr (4, [.int th, .long sd, .int nt, .ref ro, .ref pl, .ref vl, .int (nI f), .ref pa, .ref pr])), (pa, .inl (cL, 240, .inr (.inl g))), (pr, .inl (cL, 48, .inr (.inl p9)))] H := hP
  have hD : va_D A [(mx, .inr (4, [.int th, .long sd, .int nt, .ref ro, .ref pl, .ref vl, .int (nI f), .ref pa, .ref pr])), (pa, .inl (cL, 240, .inr (.inl g))), (pr, .inl (cL, 48, .inr (.inl p9)))] := hD
  refine lv_if_eq (tgt := 19) hx hb d_M_damp_5 (by decide) (fun h1 => ?_) (fun h1 => ?_)
  · have h1 : is_wm w9 = 0 := hr1.symm.trans h1
    refine lv_iconst (v := 1) hx hb d_M_damp_19 (by decide) ?_
    refine lv_goto (tgt := 24) hx hb d_M_damp_20 (by decide) ?_
    refine va_put (D := (dC, dI)) (ci := 4) (v := .int 1) (ty := .int) (C := R_M) (T := F_M) (N := 9) hx hb ha ui_M ft_M tk_M nm_M hown hK hP hD hS 0 rfl rfl 0 (by decide) (ha _ wm_M_5) (fun _ h9 => h9) rfl (by decide +kernel) rfl rfl (Nat.le_of_ble_eq_true rfl) d_M_damp_24 (fun H locs hP hD hS => ?_)
    have hP : va_P (dC, dI) cl9 [(mx, .inr (4, [.int 1, .long sd, .int nt, .ref ro, .ref pl, .ref vl, .int (nI f), .ref pa, .ref pr])), (pa, .inl (cL, 240, .inr (.inl g))), (pr, .inl (cL, 48, .inr (.inl p9)))] H := hP
    have hD : va_D A [(mx, .inr (4, [.int 1, .long sd, .int nt, .ref ro, .ref pl, .ref vl, .int (nI f), .ref pa, .ref pr])), (pa, .inl (cL, 240, .inr (.inl g))), (pr, .inl (cL, 48, .inr (.inl p9)))] := hD
    refine lv_aload_n hx hb d_M_damp_27 rfl (lv_at hl 0 rfl) ?_
    refine va_get (D := (dC, dI)) (ci := 4) (v := .int 1) (C := R_M) (T := F_M) (N := 9) hx hb ha ui_M hown hK hP 0 rfl rfl 0 (by decide) (ha _ wm_M_5) (fun _ h9 => h9) rfl d_M_damp_28 ?_
    refine lv_if_le (tgt := 38) hx hb d_M_damp_31 (by decide) (fun hq => ?_) (fun hq => ?_)
    · exact absurd hq (by decide)
    · refine lv_lconst (v := 0) hx hb d_M_damp_34 (by decide) ?_
      refine lv_goto (tgt := 44) hx hb d_M_damp_35 (by decide) ?_
      exact ct_lret hF d_M_damp_44 (1, f, g, p9) ⟨hf9, (if_pos h1).symm, (if_pos h1).symm⟩ (hP.sub [0, 1, 2] rfl) (hD.sub [0, 1, 2] (by decide) rfl) hK hS
  · have h1 : ¬ is_wm w9 = 0 := fun q => h1 (hr1.trans q)
    refine lv_iload_n hx hb d_M_damp_8 rfl (lv_at hl 2 rfl) ?_
    refine lv_if_lt (tgt := 19) hx hb d_M_damp_9 (by decide) (fun h2 => ?_) (fun h2 => ?_)
    · refine lv_iconst (v := 1) hx hb d_M_damp_19 (by decide) ?_
      refine lv_goto (tgt := 24) hx hb d_M_damp_20 (by decide) ?_
      refine va_put (D := (dC, dI)) (ci := 4) (v := .int 1) (ty := .int) (C := R_M) (T := F_M) (N := 9) hx hb ha ui_M ft_M tk_M nm_M hown hK hP hD hS 0 rfl rfl 0 (by decide) (ha _ wm_M_5) (fun _ h9 => h9) rfl (by decide +kernel) rfl rfl (Nat.le_of_ble_eq_true rfl) d_M_damp_24 (fun H locs hP hD hS => ?_)
      have hP : va_P (dC, dI) cl9 [(mx, .inr (4, [.int 1, .long sd, .int nt, .ref ro, .ref pl, .ref vl, .int (nI f), .ref pa, .ref pr])), (pa, .inl (cL, 240, .inr (.inl g))), (pr, .inl (cL, 48, .inr (.inl p9)))] H := hP
      have hD : va_D A [(mx, .inr (4, [.int 1, .long sd, .int nt, .ref ro, .ref pl, .ref vl, .int (nI f), .ref pa, .ref pr])), (pa, .inl (cL, 240, .inr (.inl g))), (pr, .inl (cL, 48, .inr (.inl p9)))] := hD
      refine lv_aload_n hx hb d_M_damp_27 rfl (lv_at hl 0 rfl) ?_
      refine va_get (D := (dC, dI)) (ci := 4) (v := .int 1) (C := R_M) (T := F_M) (N := 9) hx hb ha ui_M hown hK hP 0 rfl rfl 0 (by decide) (ha _ wm_M_5) (fun _ h9 => h9) rfl d_M_damp_28 ?_
      refine lv_if_le (tgt := 38) hx hb d_M_damp_31 (by decide) (fun hq => ?_) (fun hq => ?_)
      · exact absurd hq (by decide)
      · refine lv_lconst (v := 0) hx hb d_M_damp_34 (by decide) ?_
        refine lv_goto (tgt := 44) hx hb d_M_damp_35 (by decide) ?_
        exact ct_lret hF d_M_damp_44 (1, f, g, p9) ⟨hf9, ((if_neg h1).trans (if_pos h2)).symm, ((if_neg h1).trans (if_pos h2)).symm⟩ (hP.sub [0, 1, 2] rfl) (hD.sub [0, 1, 2] (by decide) rfl) hK hS
    · refine lv_iload_n hx hb d_M_damp_12 rfl (lv_at hl 2 rfl) ?_
      refine lv_sipush (v := 10000) hx hb d_M_damp_13 (by decide) ?_
      refine lv_icmp_le (tgt := 23) hx hb d_M_damp_16 (by decide) (fun h3 => ?_) (fun h3 => ?_)
      · refine lv_iconst (v := 0) hx hb d_M_damp_23 (by decide) ?_
        refine va_put (D := (dC, dI)) (ci := 4) (v := .int 0) (ty := .int) (C := R_M) (T := F_M) (N := 9) hx hb ha ui_M ft_M tk_M nm_M hown hK hP hD hS 0 rfl rfl 0 (by decide) (ha _ wm_M_5) (fun _ h9 => h9) rfl (by decide +kernel) rfl rfl (Nat.le_of_ble_eq_true rfl) d_M_damp_24 (fun H locs hP hD hS => ?_)
        have hP : va_P (dC, dI) cl9 [(mx, .inr (4, [.int 0, .long sd, .int nt, .ref ro, .ref pl, .ref vl, .int (nI f), .ref pa, .ref pr])), (pa, .inl (cL, 240, .inr (.inl g))), (pr, .inl (cL, 48, .inr (.inl p9)))] H := hP
        have hD : va_D A [(mx, .inr (4, [.int 0, .long sd, .int nt, .ref ro, .ref pl, .ref vl, .int (nI f), .ref pa, .ref pr])), (pa, .inl (cL, 240, .inr (.inl g))), (pr, .inl (cL, 48, .inr (.inl p9)))] := hD
        refine lv_aload_n hx hb d_M_damp_27 rfl (lv_at hl 0 rfl) ?_
        refine va_get (D := (dC, dI)) (ci := 4) (v := .int 0) (C := R_M) (T := F_M) (N := 9) hx hb ha ui_M hown hK hP 0 rfl rfl 0 (by decide) (ha _ wm_M_5) (fun _ h9 => h9) rfl d_M_damp_28 ?_
        refine lv_if_le (tgt := 38) hx hb d_M_damp_31 (by decide) (fun hq => ?_) (fun hq => ?_)
        · refine lv_aload_n hx hb d_M_damp_38 rfl (lv_at hl 0 rfl) ?_
          refine lv_iload_n hx hb d_M_damp_39 rfl (lv_at hl 1 rfl) ?_
          refine lv_iload_n hx hb d_M_damp_40 rfl (lv_at hl 2 rfl) ?_
          refine cs_calll (va_runV (As := [.int w9, .int s9]) (rest := []) ⟨hx, hb, hml, hown, ha⟩ (c_M_pressure l dC dI mx 0 sd nt ro pl vl f pa pr cL g p9 w9 s9 hf9 (wm_bd h1).1 (wm_bd h1).2 _) (cwV 2 ha g_M_M_pressure rfl rfl rfl (by decide +kernel) ⟨Nat.le_of_ble_eq_true rfl, Nat.le_of_ble_eq_true rfl⟩) (ct_preV ct_G0ok trivial hK hP hD hS hA [0, 1, 2] rfl (by decide) [0] rfl 0 4 rfl rfl rfl) rfl rfl hl.1 rfl (lv_room (Nat.le_of_ble_eq_true rfl)) d_M_damp_41 ⟨Nat.le_of_ble_eq_true rfl, Nat.le_of_ble_eq_true rfl⟩) hP hD hS hA [0, 1, 2] rfl (by decide) (fun _ => rfl) (fun v9 u_1 H locs hu_1 hP hD hS => ?_)
          have hP : va_P (dC, dI) cl9 [(mx, .inr (4, [.int u_1.1, .long sd, .int nt, .ref ro, .ref pl, .ref vl, .int (nI u_1.2.1), .ref pa, .ref pr])), (pa, .inl (cL, 240, .inr (.inl u_1.2.2.1))), (pr, .inl (cL, 48, .inr (.inl u_1.2.2.2)))] H := hP
          have hD : va_D A [(mx, .inr (4, [.int u_1.1, .long sd, .int nt, .ref ro, .ref pl, .ref vl, .int (nI u_1.2.1), .ref pa, .ref pr])), (pa, .inl (cL, 240, .inr (.inl u_1.2.2.1))), (pr, .inl (cL, 48, .inr (.inl u_1.2.2.2)))] := hD
          obtain ⟨t_2, f_3, g_4, p_5⟩ := u_1
          obtain ⟨hf_3, ht_2, hv9⟩ := hu_1
          have hf_3 : f_3 ≤ 20 := hf_3
          have hP : va_P (dC, dI) cl9 [(mx, .inr (4, [.int t_2, .long sd, .int nt, .ref ro, .ref pl, .ref vl, .int (nI f_3), .ref pa, .ref pr])), (pa, .inl (cL, 240, .inr (.inl g_4))), (pr, .inl (cL, 48, .inr (.inl p_5)))] H := hP
          have hD : va_D A [(mx, .inr (4, [.int t_2, .long sd, .int nt, .ref ro, .ref pl, .ref vl, .int (nI f_3), .ref pa, .ref pr])), (pa, .inl (cL, 240, .inr (.inl g_4))), (pr, .inl (cL, 48, .inr (.inl p_5)))] := hD
          exact ct_lret hF d_M_damp_44 (t_2, f_3, g_4, p_5) ⟨hf_3, (show t_2 = 0 from ht_2).trans ((if_neg h1).trans ((if_neg h2).trans (if_pos h3))).symm, hv9.trans ((if_neg h1).trans ((if_neg h2).trans (if_pos h3))).symm⟩ (hP.sub [0, 1, 2] rfl) (hD.sub [0, 1, 2] (by decide) rfl) hK hS
        · exact absurd (by decide) hq
      · refine lv_iconst (v := 1) hx hb d_M_damp_19 (by decide) ?_
        refine lv_goto (tgt := 24) hx hb d_M_damp_20 (by decide) ?_
        refine va_put (D := (dC, dI)) (ci := 4) (v := .int 1) (ty := .int) (C := R_M) (T := F_M) (N := 9) hx hb ha ui_M ft_M tk_M nm_M hown hK hP hD hS 0 rfl rfl 0 (by decide) (ha _ wm_M_5) (fun _ h9 => h9) rfl (by decide +kernel) rfl rfl (Nat.le_of_ble_eq_true rfl) d_M_damp_24 (fun H locs hP hD hS => ?_)
        have hP : va_P (dC, dI) cl9 [(mx, .inr (4, [.int 1, .long sd, .int nt, .ref ro, .ref pl, .ref vl, .int (nI f), .ref pa, .ref pr])), (pa, .inl (cL, 240, .inr (.inl g))), (pr, .inl (cL, 48, .inr (.inl p9)))] H := hP
        have hD : va_D A [(mx, .inr (4, [.int 1, .long sd, .int nt, .ref ro, .ref pl, .ref vl, .int (nI f), .ref pa, .ref pr])), (pa, .inl (cL, 240, .inr (.inl g))), (pr, .inl (cL, 48, .inr (.inl p9)))] := hD
        refine lv_aload_n hx hb d_M_damp_27 rfl (lv_at hl 0 rfl) ?_
        refine va_get (D := (dC, dI)) (ci := 4) (v := .int 1) (C := R_M) (T := F_M) (N := 9) hx hb ha ui_M hown hK hP 0 rfl rfl 0 (by decide) (ha _ wm_M_5) (fun _ h9 => h9) rfl d_M_damp_28 ?_
        refine lv_if_le (tgt := 38) hx hb d_M_damp_31 (by decide) (fun hq => ?_) (fun hq => ?_)
        · exact absurd hq (by decide)
        · refine lv_lconst (v := 0) hx hb d_M_damp_34 (by decide) ?_
          refine lv_goto (tgt := 44) hx hb d_M_damp_35 (by decide) ?_
          exact ct_lret hF d_M_damp_44 (1, f, g, p9) ⟨hf9, ((if_neg h1).trans ((if_neg h2).trans (if_neg h3))).symm, ((if_neg h1).trans ((if_neg h2).trans (if_neg h3))).symm⟩ (hP.sub [0, 1, 2] rfl) (hD.sub [0, 1, 2] (by decide) rfl) hK hS
set_option maxHeartbeats 4000000 in
set_option maxRecDepth 100000 in
/-- the search -/
theorem lp_M_dew {p : Program} {l : Launch} {e : Env} {R : Room} {s : State} {m : MethodId} {args : Array Value} {below : List Frame} {meth : Method} {c : Code} {Q : State → Prop} {A : Nat → Prop} {cells slots : Nat} {dC : Nat → ClassId} {dI : Nat → Nat → Nat} {mx : Nat} {th : Int32} {sd : Int64} {nt : Int32} {ro : Nat} {pl : Nat} {vl : Nat} {pa : Nat} {pr : Nat} {cL : ClassId} {q9 : Int32} {rr : (Int32 → Int64) → Int32} (hF : ct_F p s m meth c b_M_dew ((some .long)) 5 w_M_dew y_M_dew args) (hA : ∀ q, s.heap.size ≤ q → A q) (hK : va_K (dC, dI) cl9 [(cL, .long)] s) (hRf : 3 ≤ R.frames) (hRl : 110 ≤ R.locals) (hRc : cells ≤ R.cells) (hRs : slots ≤ R.slots) 
    (K : ∀ (lo : Int32) (f : Nat) (g p9 : Nat → Int64), f ≤ 20 → (∀ pf, HP pf → lo = rr pf) → ∀ (H : Heap) (locs : List Loc) (ls : Array Slot), va_P (dC, dI) cl9 [(mx, .inr (4, [.int th, .long sd, .int nt, .ref ro, .ref pl, .ref vl, .int (nI f), .ref pa, .ref pr])), (pa, .inl (cL, 240, .inr (.inl g))), (pr, .inl (cL, 48, .inr (.inl p9)))] H → va_D A [(mx, .inr (4, [.int th, .long sd, .int nt, .ref ro, .ref pl, .ref vl, .int (nI f), .ref pa, .ref pr])), (pa, .inl (cL, 240, .inr (.inl g))), (pr, .inl (cL, 48, .inr (.inl p9)))] → va_S A s.heap H locs → lv_has ls 5 [(2, .int lo)] → W p l e R s m args below meth c H locs cells slots Q (F0 m 99 ls [])) :
    ∀ (n9 : Nat) (lo hi : Int32) (f : Nat) (g p9 : Nat → Int64), f ≤ 20 → -4000 ≤ lo.toInt → hi.toInt ≤ 10001 → lo.toInt < hi.toInt → hi.toInt - lo.toInt ≤ 2 ^ n9 → (∀ pf, HP pf → rr pf = dws pf q9 n9 lo hi) → ∀ (H : Heap) (locs : List Loc) (ls : Array Slot), va_P (dC, dI) cl9 [(mx, .inr (4, [.int th, .long sd, .int nt, .ref ro, .ref pl, .ref vl, .int (nI f), .ref pa, .ref pr])), (pa, .inl (cL, 240, .inr (.inl g))), (pr, .inl (cL, 48, .inr (.inl p9)))] H → va_D A [(mx, .inr (4, [.int th, .long sd, .int nt, .ref ro, .ref pl, .ref vl, .int (nI f), .ref pa, .ref pr])), (pa, .inl (cL, 240, .inr (.inl g))), (pr, .inl (cL, 48, .inr (.inl p9)))] → va_S A s.heap H locs → lv_has ls 5 [(0, .ref mx), (1, .int q9), (2, .int lo), (3, .int hi)] → W p l e R s m args below meth c H locs cells slots Q (F0 m 56 ls []) := by
  obtain ⟨hx, hb, hr, hml, hts, hown, hlocks, hnm⟩ := id hF
  have hown : s.vm.findClass R_M = some m.cls := hown
  have ha : ∀ w ∈ al_M, w.before args s = true := fun w h => hts w (List.mem_cons_of_mem _ h)
  intro n9
  induction n9 with
  | zero =>
    intro lo hi f g p9 hf9 b1 b2 b3 b4 hR H locs ls hP hD hS hl
    refine lv_iload_n hx hb d_M_dew_56 rfl (lv_at hl 3 rfl) ?_
    refine lv_iload_n hx hb d_M_dew_57 rfl (lv_at hl 2 rfl) ?_
    refine lv_isub hx hb d_M_dew_58 ?_
    refine lv_iconst (v := 1) hx hb d_M_dew_59 (by decide) ?_
    refine lv_icmp_le (tgt := 99) hx hb d_M_dew_60 (by decide) (fun hc => ?_) (fun hc => ?_)
    · exact K lo f g p9 hf9 (fun pf h => ((hR pf h).trans (dws_1 pf q9 _ hc)).symm) _ _ _ hP hD hS (lv_sub hl [2] rfl)
    · exact absurd (dm_end b1 b2 b3 b4) hc
  | succ n9 ih =>
    intro lo hi f g p9 hf9 b1 b2 b3 b4 hR H locs ls hP hD hS hl
    refine lv_iload_n hx hb d_M_dew_56 rfl (lv_at hl 3 rfl) ?_
    refine lv_iload_n hx hb d_M_dew_57 rfl (lv_at hl 2 rfl) ?_
    refine lv_isub hx hb d_M_dew_58 ?_
    refine lv_iconst (v := 1) hx hb d_M_dew_59 (by decide) ?_
    refine lv_icmp_le (tgt := 99) hx hb d_M_dew_60 (by decide) (fun hc => ?_) (fun hc => ?_)
    · exact K lo f g p9 hf9 (fun pf h => ((hR pf h).trans (dws_1 pf q9 _ hc)).symm) _ _ _ hP hD hS (lv_sub hl [2] rfl)
    · obtain ⟨d1, d2, d3, d4⟩ := dm_step b1 b2 b3 b4 hc
      refine lv_iload_n hx hb d_M_dew_63 rfl (lv_at hl 2 rfl) ?_
      refine lv_iload_n hx hb d_M_dew_64 rfl (lv_at hl 3 rfl) ?_
      refine lv_iload_n hx hb d_M_dew_65 rfl (lv_at hl 2 rfl) ?_
      refine lv_isub hx hb d_M_dew_66 ?_
      refine lv_iconst (v := 2) hx hb d_M_dew_67 (by decide) ?_
      refine lv_idiv hx hb d_M_dew_68 (by decide) ?_
      refine lv_iadd hx hb d_M_dew_69 ?_
      refine lv_istore (lv' := [(4, .int (lo + ((hi - lo) / 2))), (0, .ref mx), (1, .int q9), (2, .int lo), (3, .int hi)]) hx hb d_M_dew_70 hl (by decide) rfl (fun ls hl => ?_)
      refine lv_aload_n hx hb d_M_dew_72 rfl (lv_at hl 1 rfl) ?_
      refine lv_iload hx hb d_M_dew_73 (lv_at hl 0 rfl) ?_
      refine lv_sipush (v := 10000) hx hb d_M_dew_75 (by decide) ?_
      refine cs_calll (va_runV (As := [.int (lo + ((hi - lo) / 2)), .int 10000]) (rest := []) ⟨hx, hb, hml, hown, ha⟩ (c_M_pressure l dC dI mx th sd nt ro pl vl f pa pr cL g p9 (lo + ((hi - lo) / 2)) 10000 hf9 (show -4000 ≤ (dm lo hi).toInt by omega) (show (dm lo hi).toInt ≤ 10000 by omega) _) (cwV 2 ha g_M_M_pressure rfl rfl rfl (by decide +kernel) ⟨Nat.le_trans (Nat.le_of_ble_eq_true rfl) hRf, Nat.le_trans (Nat.le_of_ble_eq_true rfl) hRl⟩) (ct_preV ct_G0ok trivial hK hP hD hS hA [0, 1, 2] rfl (by decide) [0] rfl 0 4 rfl rfl rfl) rfl rfl hl.1 rfl (lv_room (Nat.le_of_ble_eq_true rfl)) d_M_dew_78 ⟨hRc, hRs⟩) hP hD hS hA [0, 1, 2] rfl (by decide) (fun _ => rfl) (fun v9 u_1 H locs hu_1 hP hD hS => ?_)
      have hP : va_P (dC, dI) cl9 [(mx, .inr (4, [.int u_1.1, .long sd, .int nt, .ref ro, .ref pl, .ref vl, .int (nI u_1.2.1), .ref pa, .ref pr])), (pa, .inl (cL, 240, .inr (.inl u_1.2.2.1))), (pr, .inl (cL, 48, .inr (.inl u_1.2.2.2)))] H := hP
      have hD : va_D A [(mx, .inr (4, [.int u_1.1, .long sd, .int nt, .ref ro, .ref pl, .ref vl, .int (nI u_1.2.1), .ref pa, .ref pr])), (pa, .inl (cL, 240, .inr (.inl u_1.2.2.1))), (pr, .inl (cL, 48, .inr (.inl u_1.2.2.2)))] := hD
      obtain ⟨t_2, f_3, g_4, p_5⟩ := u_1
      obtain ⟨hf_3, ht_2, hv9⟩ := hu_1
      have hf_3 : f_3 ≤ 20 := hf_3
      have hP : va_P (dC, dI) cl9 [(mx, .inr (4, [.int t_2, .long sd, .int nt, .ref ro, .ref pl, .ref vl, .int (nI f_3), .ref pa, .ref pr])), (pa, .inl (cL, 240, .inr (.inl g_4))), (pr, .inl (cL, 48, .inr (.inl p_5)))] H := hP
      have hD : va_D A [(mx, .inr (4, [.int t_2, .long sd, .int nt, .ref ro, .ref pl, .ref vl, .int (nI f_3), .ref pa, .ref pr])), (pa, .inl (cL, 240, .inr (.inl g_4))), (pr, .inl (cL, 48, .inr (.inl p_5)))] := hD
      obtain rfl : t_2 = th := ht_2
      have hP : va_P (dC, dI) cl9 [(mx, .inr (4, [.int t_2, .long sd, .int nt, .ref ro, .ref pl, .ref vl, .int (nI f_3), .ref pa, .ref pr])), (pa, .inl (cL, 240, .inr (.inl g_4))), (pr, .inl (cL, 48, .inr (.inl p_5)))] H := hP
      have hD : va_D A [(mx, .inr (4, [.int t_2, .long sd, .int nt, .ref ro, .ref pl, .ref vl, .int (nI f_3), .ref pa, .ref pr])), (pa, .inl (cL, 240, .inr (.inl g_4))), (pr, .inl (cL, 48, .inr (.inl p_5)))] := hD
      have hpf : ∀ pf, HP pf → v9 = pf (dm lo hi) := fun pf h => hv9.trans (h (dm lo hi) (g, p9) (by omega) (by omega))
      refine lv_iload_n hx hb d_M_dew_81 rfl (lv_at hl 2 rfl) ?_
      refine lv_i2l hx hb d_M_dew_82 rfl ?_
      refine ct_jgt (tgt := 93) hx hb d_M_dew_83 d_M_dew_84 (by decide) (fun hd => ?_) (fun hd => ?_)
      · refine lv_iload hx hb d_M_dew_93 (lv_at hl 0 rfl) ?_
        refine lv_istore_n (lv' := [(3, .int (lo + ((hi - lo) / 2))), (4, .int (lo + ((hi - lo) / 2))), (0, .ref mx), (1, .int q9), (2, .int lo)]) hx hb d_M_dew_95 rfl hl (by decide) rfl (fun ls hl => ?_)
        refine lv_goto (tgt := 56) hx hb d_M_dew_96 (by decide) ?_
        exact ih lo (dm lo hi) f_3 g_4 p_5 hf_3 b1 (by omega) d1 d3 (fun pf h => (hR pf h).trans ((if_neg hc).trans (if_pos (by rw [← hpf pf h]; exact hd)))) _ _ _ hP hD hS (lv_sub hl [2, 3, 4, 0] rfl)
      · refine lv_iload hx hb d_M_dew_87 (lv_at hl 0 rfl) ?_
        refine lv_istore_n (lv' := [(2, .int (lo + ((hi - lo) / 2))), (4, .int (lo + ((hi - lo) / 2))), (0, .ref mx), (1, .int q9), (3, .int hi)]) hx hb d_M_dew_89 rfl hl (by decide) rfl (fun ls hl => ?_)
        refine lv_goto (tgt := 96) hx hb d_M_dew_90 (by decide) ?_
        refine lv_goto (tgt := 56) hx hb d_M_dew_96 (by decide) ?_
        exact ih (dm lo hi) hi f_3 g_4 p_5 hf_3 (by omega) b2 d2 d4 (fun pf h => (hR pf h).trans ((if_neg hc).trans (if_neg (by rw [← hpf pf h]; exact hd)))) _ _ _ hP hD hS (lv_sub hl [2, 3, 0, 4] rfl)
set_option maxHeartbeats 4000000 in
set_option maxRecDepth 100000 in
/-- dew(pressure) -/
theorem c_M_dew (l : Launch) (dC : Nat → ClassId) (dI : Nat → Nat → Nat) (mx : Nat) (th : Int32) (sd : Int64) (nt : Int32) (ro : Nat) (pl : Nat) (vl : Nat) (f : Nat) (pa : Nat) (pr : Nat) (cL : ClassId) (g : Nat → Int64) (p9 : Nat → Int64) (q9 : Int32) (hf9 : f ≤ 20) (sz : Nat) : ct_L l y_M_dew w_M_dew { frames := 3, cells := 0, slots := 0, locals := 110 } (dC, dI) cl9 [(cL, .long)] ct_G0 [.ref mx, .int q9] [(mx, .inr (4, [.int th, .long sd, .int nt, .ref ro, .ref pl, .ref vl, .int (nI f), .ref pa, .ref pr])), (pa, .inl (cL, 240, .inr (.inl g))), (pr, .inl (cL, 48, .inr (.inl p9)))] sz (S := Int32 × Nat × S2) (fun v9 (u : Int32 × Nat × S2) => u.2.1 ≤ 20 ∧ u.1 = th_dw q9 ∧ (∀ pf, HP pf → v9 = vl_dw pf q9)) (fun _ : Int32 × Nat × S2 => [(cL, .long)]) (fun u : Int32 × Nat × S2 => [(mx, .inr (4, [.int u.1, .long sd, .int nt, .ref ro, .ref pl, .ref vl, .int (nI u.2.1), .ref pa, .ref pr])), (pa, .inl (cL, 240, .inr (.inl u.2.2.1))), (pr, .inl (cL, 48, .inr (.inl u.2.2.2)))]) 0 0 := by
  refine ct_of (Qf := fun A => va_Ql (fun v9 (u : Int32 × Nat × S2) => u.2.1 ≤ 20 ∧ u.1 = th_dw q9 ∧ (∀ pf, HP pf → v9 = vl_dw pf q9)) (ct_B (S := Int32 × Nat × S2) (dC, dI) cl9 (fun _ : Int32 × Nat × S2 => [(cL, .long)]) A (fun u : Int32 × Nat × S2 => [(mx, .inr (4, [.int u.1, .long sd, .int nt, .ref ro, .ref pl, .ref vl, .int (nI u.2.1), .ref pa, .ref pr])), (pa, .inl (cL, 240, .inr (.inl u.2.2.1))), (pr, .inl (cL, 48, .inr (.inl u.2.2.2)))])) A) (cc := b_M_dew) (maxL := 5) (ret := ((some .long))) (by decide) rfl (Nat.le_of_ble_eq_true rfl) ?_
  intro p e s m below meth c A ls hF hA hP hK hD hG hS hl
  obtain ⟨hx, hb, hr, hml, hts, hown, hlocks, hnm⟩ := id hF
  have hown : s.vm.findClass R_M = some m.cls := hown
  have ha : ∀ w ∈ al_M, w.before [.ref mx, .int q9].toArray s = true := fun w h => hts w (List.mem_cons_of_mem _ h)
  have hl : lv_has ls 5 [(0, .ref mx), (1, .int q9)] := hl
  refine lv_aload_n hx hb d_M_dew_0 rfl (lv_at hl 0 rfl) ?_
  refine lv_iload_n hx hb d_M_dew_1 rfl (lv_at hl 1 rfl) ?_
  refine lv_if_lt (tgt := 11) hx hb d_M_dew_2 (by decide) (fun h1 => ?_) (fun h1 => ?_)
  · refine lv_iconst (v := 1) hx hb d_M_dew_11 (by decide) ?_
    refine lv_goto (tgt := 16) hx hb d_M_dew_12 (by decide) ?_
    refine va_put (D := (dC, dI)) (ci := 4) (v := .int 1) (ty := .int) (C := R_M) (T := F_M) (N := 9) hx hb ha ui_M ft_M tk_M nm_M hown hK hP hD hS 0 rfl rfl 0 (by decide) (ha _ wm_M_5) (fun _ h9 => h9) rfl (by decide +kernel) rfl rfl (Nat.le_of_ble_eq_true rfl) d_M_dew_16 (fun H locs hP hD hS => ?_)
    have hP : va_P (dC, dI) cl9 [(mx, .inr (4, [.int 1, .long sd, .int nt, .ref ro, .ref pl, .ref vl, .int (nI f), .ref pa, .ref pr])), (pa, .inl (cL, 240, .inr (.inl g))), (pr, .inl (cL, 48, .inr (.inl p9)))] H := hP
    have hD : va_D A [(mx, .inr (4, [.int 1, .long sd, .int nt, .ref ro, .ref pl, .ref vl, .int (nI f), .ref pa, .ref pr])), (pa, .inl (cL, 240, .inr (.inl g))), (pr, .inl (cL, 48, .inr (.inl p9)))] := hD
    refine lv_aload_n hx hb d_M_dew_19 rfl (lv_at hl 0 rfl) ?_
    refine va_get (D := (dC, dI)) (ci := 4) (v := .int 1) (C := R_M) (T := F_M) (N := 9) hx hb ha ui_M hown hK hP 0 rfl rfl 0 (by decide) (ha _ wm_M_5) (fun _ h9 => h9) rfl d_M_dew_20 ?_
    refine lv_if_le (tgt := 28) hx hb d_M_dew_23 (by decide) (fun hq => ?_) (fun hq => ?_)
    · exact absurd hq (by decide)
    · refine lv_lconst (v := 0) hx hb d_M_dew_26 (by decide) ?_
      exact ct_lret hF d_M_dew_27 (1, f, g, p9) ⟨hf9, (if_pos h1).symm, fun _ _ => (if_pos h1).symm⟩ (hP.sub [0, 1, 2] rfl) (hD.sub [0, 1, 2] (by decide) rfl) hK hS
  · refine lv_iload_n hx hb d_M_dew_5 rfl (lv_at hl 1 rfl) ?_
    refine lv_ldc (v := 1000000000) hx hb hown (ha _ wm_M_141) d_M_dew_6 ?_
    refine lv_icmp_le (tgt := 15) hx hb d_M_dew_8 (by decide) (fun h2 => ?_) (fun h2 => ?_)
    · refine lv_iconst (v := 0) hx hb d_M_dew_15 (by decide) ?_
      refine va_put (D := (dC, dI)) (ci := 4) (v := .int 0) (ty := .int) (C := R_M) (T := F_M) (N := 9) hx hb ha ui_M ft_M tk_M nm_M hown hK hP hD hS 0 rfl rfl 0 (by decide) (ha _ wm_M_5) (fun _ h9 => h9) rfl (by decide +kernel) rfl rfl (Nat.le_of_ble_eq_true rfl) d_M_dew_16 (fun H locs hP hD hS => ?_)
      have hP : va_P (dC, dI) cl9 [(mx, .inr (4, [.int 0, .long sd, .int nt, .ref ro, .ref pl, .ref vl, .int (nI f), .ref pa, .ref pr])), (pa, .inl (cL, 240, .inr (.inl g))), (pr, .inl (cL, 48, .inr (.inl p9)))] H := hP
      have hD : va_D A [(mx, .inr (4, [.int 0, .long sd, .int nt, .ref ro, .ref pl, .ref vl, .int (nI f), .ref pa, .ref pr])), (pa, .inl (cL, 240, .inr (.inl g))), (pr, .inl (cL, 48, .inr (.inl p9)))] := hD
      refine lv_aload_n hx hb d_M_dew_19 rfl (lv_at hl 0 rfl) ?_
      refine va_get (D := (dC, dI)) (ci := 4) (v := .int 0) (C := R_M) (T := F_M) (N := 9) hx hb ha ui_M hown hK hP 0 rfl rfl 0 (by decide) (ha _ wm_M_5) (fun _ h9 => h9) rfl d_M_dew_20 ?_
      refine lv_if_le (tgt := 28) hx hb d_M_dew_23 (by decide) (fun hq => ?_) (fun hq => ?_)
      · refine lv_aload_n hx hb d_M_dew_28 rfl (lv_at hl 0 rfl) ?_
        refine lv_sipush (v := (-4000)) hx hb d_M_dew_29 (by decide) ?_
        refine lv_sipush (v := 10000) hx hb d_M_dew_32 (by decide) ?_
        refine cs_calll (va_runV (As := [.int (-4000), .int 10000]) (rest := []) ⟨hx, hb, hml, hown, ha⟩ (c_M_pressure l dC dI mx 0 sd nt ro pl vl f pa pr cL g p9 (-4000) 10000 hf9 (by decide) (by decide) _) (cwV 2 ha g_M_M_pressure rfl rfl rfl (by decide +kernel) ⟨Nat.le_of_ble_eq_true rfl, Nat.le_of_ble_eq_true rfl⟩) (ct_preV ct_G0ok trivial hK hP hD hS hA [0, 1, 2] rfl (by decide) [0] rfl 0 4 rfl rfl rfl) rfl rfl hl.1 rfl (lv_room (Nat.le_of_ble_eq_true rfl)) d_M_dew_35 ⟨Nat.le_of_ble_eq_true rfl, Nat.le_of_ble_eq_true rfl⟩) hP hD hS hA [0, 1, 2] rfl (by decide) (fun _ => rfl) (fun v9 u_6 H locs hu_6 hP hD hS => ?_)
        have hP : va_P (dC, dI) cl9 [(mx, .inr (4, [.int u_6.1, .long sd, .int nt, .ref ro, .ref pl, .ref vl, .int (nI u_6.2.1), .ref pa, .ref pr])), (pa, .inl (cL, 240, .inr (.inl u_6.2.2.1))), (pr, .inl (cL, 48, .inr (.inl u_6.2.2.2)))] H := hP
        have hD : va_D A [(mx, .inr (4, [.int u_6.1, .long sd, .int nt, .ref ro, .ref pl, .ref vl, .int (nI u_6.2.1), .ref pa, .ref pr])), (pa, .inl (cL, 240, .inr (.inl u_6.2.2.1))), (pr, .inl (cL, 48, .inr (.inl u_6.2.2.2)))] := hD
        obtain ⟨t_7, f_8, g_9, p_10⟩ := u_6
        obtain ⟨hf_8, ht_7, hv9⟩ := hu_6
        have hf_8 : f_8 ≤ 20 := hf_8
        have hP : va_P (dC, dI) cl9 [(mx, .inr (4, [.int t_7, .long sd, .int nt, .ref ro, .ref pl, .ref vl, .int (nI f_8), .ref pa, .ref pr])), (pa, .inl (cL, 240, .inr (.inl g_9))), (pr, .inl (cL, 48, .inr (.inl p_10)))] H := hP
        have hD : va_D A [(mx, .inr (4, [.int t_7, .long sd, .int nt, .ref ro, .ref pl, .ref vl, .int (nI f_8), .ref pa, .ref pr])), (pa, .inl (cL, 240, .inr (.inl g_9))), (pr, .inl (cL, 48, .inr (.inl p_10)))] := hD
        obtain rfl : t_7 = 0 := ht_7
        have hP : va_P (dC, dI) cl9 [(mx, .inr (4, [.int 0, .long sd, .int nt, .ref ro, .ref pl, .ref vl, .int (nI f_8), .ref pa, .ref pr])), (pa, .inl (cL, 240, .inr (.inl g_9))), (pr, .inl (cL, 48, .inr (.inl p_10)))] H := hP
        have hD : va_D A [(mx, .inr (4, [.int 0, .long sd, .int nt, .ref ro, .ref pl, .ref vl, .int (nI f_8), .ref pa, .ref pr])), (pa, .inl (cL, 240, .inr (.inl g_9))), (pr, .inl (cL, 48, .inr (.inl p_10)))] := hD
        have hpf : ∀ pf, HP pf → v9 = pf (-4000) := fun pf h => hv9.trans (h (-4000) (g, p9) (by decide) (by decide))
        refine lv_iload_n hx hb d_M_dew_38 rfl (lv_at hl 1 rfl) ?_
        refine lv_i2l hx hb d_M_dew_39 rfl ?_
        refine ct_jle (tgt := 48) hx hb d_M_dew_40 d_M_dew_41 (by decide) (fun h3 => ?_) (fun h3 => ?_)
        · refine lv_sipush (v := (-4000)) hx hb d_M_dew_48 (by decide) ?_
          refine lv_istore_n (lv' := [(2, .int (-4000)), (0, .ref mx), (1, .int q9)]) hx hb d_M_dew_51 rfl hl (by decide) rfl (fun ls hl => ?_)
          refine lv_sipush (v := 10001) hx hb d_M_dew_52 (by decide) ?_
          refine lv_istore_n (lv' := [(3, .int 10001), (2, .int (-4000)), (0, .ref mx), (1, .int q9)]) hx hb d_M_dew_55 rfl hl (by decide) rfl (fun ls hl => ?_)
          refine lp_M_dew (R := { frames := 3, cells := 0, slots := 0, locals := 110 }) (cells := 0) (slots := 0) (mx := mx) (th := 0) (sd := sd) (nt := nt) (ro := ro) (pl := pl) (vl := vl) (pa := pa) (pr := pr) (cL := cL) (q9 := q9) (rr := fun pf => dws pf q9 14 (-4000) 10001) hF hA hK (Nat.le_of_ble_eq_true rfl) (Nat.le_of_ble_eq_true rfl) (Nat.le_of_ble_eq_true rfl) (Nat.le_of_ble_eq_true rfl) (fun lo f8 g8 p8 hf8 hlo H locs ls hP hD hS hl => ?_) 14 (-4000) 10001 f_8 g_9 p_10 hf_8 (by decide) (by decide) (by decide) (by decide) (fun pf h => rfl) _ _ _ hP hD hS (lv_sub hl [2, 3, 1, 0] rfl)
          refine lv_iload_n hx hb d_M_dew_99 rfl (lv_at hl 0 rfl) ?_
          refine lv_i2l hx hb d_M_dew_100 rfl ?_
          exact ct_lret hF d_M_dew_101 (0, f8, g8, p8) ⟨hf8, ((if_neg h1).trans (if_pos h2)).symm, fun pf h => (congrArg Int32.toInt64 (hlo pf h)).trans ((if_neg h1).trans ((if_pos h2).trans (if_pos (by rw [← hpf pf h]; exact h3)))).symm⟩ (hP.sub [0, 1, 2] rfl) (hD.sub [0, 1, 2] (by decide) rfl) hK hS
        · refine lv_ldc2 (v := (-9223372036854775808)) hx hb hown (ha _ wm_M_78) d_M_dew_44 ?_
          exact ct_lret hF d_M_dew_47 (0, f_8, g_9, p_10) ⟨hf_8, ((if_neg h1).trans (if_pos h2)).symm, fun pf h => ((if_neg h1).trans ((if_pos h2).trans (if_neg (by rw [← hpf pf h]; exact h3)))).symm⟩ (hP.sub [0, 1, 2] rfl) (hD.sub [0, 1, 2] (by decide) rfl) hK hS
      · exact absurd (by decide) hq
    · refine lv_iconst (v := 1) hx hb d_M_dew_11 (by decide) ?_
      refine lv_goto (tgt := 16) hx hb d_M_dew_12 (by decide) ?_
      refine va_put (D := (dC, dI)) (ci := 4) (v := .int 1) (ty := .int) (C := R_M) (T := F_M) (N := 9) hx hb ha ui_M ft_M tk_M nm_M hown hK hP hD hS 0 rfl rfl 0 (by decide) (ha _ wm_M_5) (fun _ h9 => h9) rfl (by decide +kernel) rfl rfl (Nat.le_of_ble_eq_true rfl) d_M_dew_16 (fun H locs hP hD hS => ?_)
      have hP : va_P (dC, dI) cl9 [(mx, .inr (4, [.int 1, .long sd, .int nt, .ref ro, .ref pl, .ref vl, .int (nI f), .ref pa, .ref pr])), (pa, .inl (cL, 240, .inr (.inl g))), (pr, .inl (cL, 48, .inr (.inl p9)))] H := hP
      have hD : va_D A [(mx, .inr (4, [.int 1, .long sd, .int nt, .ref ro, .ref pl, .ref vl, .int (nI f), .ref pa, .ref pr])), (pa, .inl (cL, 240, .inr (.inl g))), (pr, .inl (cL, 48, .inr (.inl p9)))] := hD
      refine lv_aload_n hx hb d_M_dew_19 rfl (lv_at hl 0 rfl) ?_
      refine va_get (D := (dC, dI)) (ci := 4) (v := .int 1) (C := R_M) (T := F_M) (N := 9) hx hb ha ui_M hown hK hP 0 rfl rfl 0 (by decide) (ha _ wm_M_5) (fun _ h9 => h9) rfl d_M_dew_20 ?_
      refine lv_if_le (tgt := 28) hx hb d_M_dew_23 (by decide) (fun hq => ?_) (fun hq => ?_)
      · exact absurd hq (by decide)
      · refine lv_lconst (v := 0) hx hb d_M_dew_26 (by decide) ?_
        exact ct_lret hF d_M_dew_27 (1, f, g, p9) ⟨hf9, ((if_neg h1).trans (if_neg h2)).symm, fun _ _ => ((if_neg h1).trans (if_neg h2)).symm⟩ (hP.sub [0, 1, 2] rfl) (hD.sub [0, 1, 2] (by decide) rfl) hK hS
