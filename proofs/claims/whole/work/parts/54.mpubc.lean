theorem d_M_powerOf (l : Launch) (dC : Nat → ClassId) (dI : Nat → Nat → Nat) (mx : Nat) (th : Int32) (sd : Int64) (nt : Int32) (ro : Nat) (pl : Nat) (vl : Nat) (f : Nat) (pa : Nat) (pr : Nat) (cL : ClassId) (g : Nat → Int64) (p9 : Nat → Int64) (z : Int32) (hf : f ≤ 20) (o8 : ok 8 g) (hX : vv 8 g 24 ≤ 32 * 1000000 ^ f) (sz : Nat) : ct_V l y_M_powerOf w_M_powerOf { frames := 1, cells := 0, slots := 0, locals := 40 } (dC, dI) cl9 [(cL, .long)] ct_G0 [.ref mx, .int z] [(mx, .inr (4, [.int th, .long sd, .int nt, .ref ro, .ref pl, .ref vl, .int (nI f), .ref pa, .ref pr])), (pa, .inl (cL, 240, .inr (.inl g))), (pr, .inl (cL, 48, .inr (.inl p9)))] sz (S := S2) (fun u : S2 => u = po f z g p9) (fun _ : S2 => [(cL, .long)]) (fun u : S2 => [(mx, .inr (4, [.int th, .long sd, .int nt, .ref ro, .ref pl, .ref vl, .int (nI f), .ref pa, .ref pr])), (pa, .inl (cL, 240, .inr (.inl u.1))), (pr, .inl (cL, 48, .inr (.inl u.2)))]) 0 0 :=
  c_M_powerOf l dC dI mx th sd nt ro pl vl f pa pr cL g p9 z (by omega) _ (po_st hf o8 hX).1 (po_st hf o8 hX).2.1 (po_st hf o8 hX).2.2 sz
theorem d_M_half (l : Launch) (dC : Nat → ClassId) (dI : Nat → Nat → Nat) (mx : Nat) (th : Int32) (sd : Int64) (nt : Int32) (ro : Nat) (pl : Nat) (vl : Nat) (f : Nat) (pa : Nat) (pr : Nat) (cL : ClassId) (g : Nat → Int64)  (hf : f ≤ 20) (sz : Nat) : ct_V l y_M_half w_M_half { frames := 3, cells := 0, slots := 0, locals := 110 } (dC, dI) cl9 [(cL, .long)] ct_G0 [.ref mx] [(mx, .inr (4, [.int th, .long sd, .int nt, .ref ro, .ref pl, .ref vl, .int (nI f), .ref pa, .ref pr])), (pa, .inl (cL, 240, .inr (.inl g)))] sz (S := Nat → Int64) (fun u : Nat → Int64 => u = hfr f g) (fun _ : Nat → Int64 => [(cL, .long)]) (fun u : Nat → Int64 => [(mx, .inr (4, [.int th, .long sd, .int nt, .ref ro, .ref pl, .ref vl, .int (nI f), .ref pa, .ref pr])), (pa, .inl (cL, 240, .inr (.inl u)))]) 0 0 :=
  c_M_half l dC dI mx th sd nt ro pl vl f pa pr cL g (by omega) _ (hf_s1 hf).1 (hf_s1 hf).2.1 (hf_s1 hf).2.2 _ (hf_s2 hf).1 (hf_s2 hf).2.1 (hf_s2 hf).2.2 sz
theorem d_M_angleOf (l : Launch) (dC : Nat → ClassId) (dI : Nat → Nat → Nat) (mx : Nat) (th : Int32) (sd : Int64) (nt : Int32) (ro : Nat) (pl : Nat) (vl : Nat) (f : Nat) (pa : Nat) (pr : Nat) (cL : ClassId) (g : Nat → Int64) (a b : Int64) (hf : f ≤ 18) (ha : 0 ≤ a.toInt) (hab : a.toInt ≤ b.toInt) (hb0 : 0 < b.toInt) (hb : b.toInt ≤ 1000000) (sz : Nat) : ct_V l y_M_angleOf w_M_angleOf { frames := 2, cells := 0, slots := 0, locals := 80 } (dC, dI) cl9 [(cL, .long)] ct_G0 [.ref mx, .long a, .long b] [(mx, .inr (4, [.int th, .long sd, .int nt, .ref ro, .ref pl, .ref vl, .int (nI f), .ref pa, .ref pr])), (pa, .inl (cL, 240, .inr (.inl g)))] sz (S := Nat → Int64) (fun u : Nat → Int64 => u = anr f a b g) (fun _ : Nat → Int64 => [(cL, .long)]) (fun u : Nat → Int64 => [(mx, .inr (4, [.int th, .long sd, .int nt, .ref ro, .ref pl, .ref vl, .int (nI f), .ref pa, .ref pr])), (pa, .inl (cL, 240, .inr (.inl u)))]) 0 0 :=
  c_M_angleOf l dC dI mx th sd nt ro pl vl f pa pr cL g a b (by omega) (an_ne ha hab hb0 hb) _ (an_s hf ha hab hb0 hb).1 (an_s hf ha hab hb0 hb).2.1 (an_s hf ha hab hb0 hb).2.2 sz
theorem d_M_quarter (l : Launch) (dC : Nat → ClassId) (dI : Nat → Nat → Nat) (mx : Nat) (th : Int32) (sd : Int64) (nt : Int32) (ro : Nat) (pl : Nat) (vl : Nat) (f : Nat) (pa : Nat) (pr : Nat) (cL : ClassId) (g : Nat → Int64) (p9 : Nat → Int64) (z : Int32) (hf : f ≤ 18) (o8 : ok 8 g) (hX : vv 8 g 24 ≤ 2 * 1000000 ^ f) (sz : Nat) : ct_V l y_M_quarter w_M_quarter { frames := 2, cells := 0, slots := 0, locals := 80 } (dC, dI) cl9 [(cL, .long)] ct_G0 [.ref mx, .int z] [(mx, .inr (4, [.int th, .long sd, .int nt, .ref ro, .ref pl, .ref vl, .int (nI f), .ref pa, .ref pr])), (pa, .inl (cL, 240, .inr (.inl g))), (pr, .inl (cL, 48, .inr (.inl p9)))] sz (S := S2) (fun u : S2 => u = qur f z g p9) (fun _ : S2 => [(cL, .long)]) (fun u : S2 => [(mx, .inr (4, [.int th, .long sd, .int nt, .ref ro, .ref pl, .ref vl, .int (nI f), .ref pa, .ref pr])), (pa, .inl (cL, 240, .inr (.inl u.1))), (pr, .inl (cL, 48, .inr (.inl u.2)))]) 0 0 :=
  c_M_quarter l dC dI mx th sd nt ro pl vl f pa pr cL g p9 z (by omega) _ (qu_s hf o8 hX).1 (qu_s hf o8 hX).2.1 (qu_s hf o8 hX).2.2 sz
theorem d_M_logarithmOf (l : Launch) (dC : Nat → ClassId) (dI : Nat → Nat → Nat) (mx : Nat) (th : Int32) (sd : Int64) (nt : Int32) (ro : Nat) (pl : Nat) (vl : Nat) (f : Nat) (pa : Nat) (pr : Nat) (cL : ClassId) (g : Nat → Int64) (p9 : Nat → Int64) (v : Int64) (hf : f ≤ 20) (h0 : 0 < v.toInt) (hv : v.toInt ≤ 1000000000000) (sz : Nat) : ct_V l y_M_logarithmOf w_M_logarithmOf { frames := 3, cells := 0, slots := 0, locals := 110 } (dC, dI) cl9 [(cL, .long)] ct_G0 [.ref mx, .long v] [(mx, .inr (4, [.int th, .long sd, .int nt, .ref ro, .ref pl, .ref vl, .int (nI f), .ref pa, .ref pr])), (pa, .inl (cL, 240, .inr (.inl g))), (pr, .inl (cL, 48, .inr (.inl p9)))] sz (S := S2) (fun u : S2 => u = lor f v g p9) (fun _ : S2 => [(cL, .long)]) (fun u : S2 => [(mx, .inr (4, [.int th, .long sd, .int nt, .ref ro, .ref pl, .ref vl, .int (nI f), .ref pa, .ref pr])), (pa, .inl (cL, 240, .inr (.inl u.1))), (pr, .inl (cL, 48, .inr (.inl u.2)))]) 0 0 :=
  c_M_logarithmOf l dC dI mx th sd nt ro pl vl f pa pr cL g p9 v (by omega) _ (lgk_ok hv).2.1 (lgk_ok hv).2.2 (lo_ne h0 hv) _ (lo_s1 hf).1 (lo_s1 hf).2.1 (lo_s1 hf).2.2 _ (lo_s2 hf h0 hv).1 (lo_s2 hf h0 hv).2.1 (lo_s2 hf h0 hv).2.2 sz
def th_pw (x : Int32) : Int32 := if x < -20000000 then 1 else if x ≤ 20000000 then 0 else 1
def vl_pw (x : Int32) (z : S2) : Int64 := if x < -20000000 then 0 else if x ≤ 20000000 then (if x = 0 then 1000000000 else m_val (pw_P x) (pw_V x) z) else 0
set_option maxHeartbeats 4000000 in
set_option maxRecDepth 100000 in
/-- power(x) -/
theorem c_M_power (l : Launch) (dC : Nat → ClassId) (dI : Nat → Nat → Nat) (mx : Nat) (th : Int32) (sd : Int64) (nt : Int32) (ro : Nat) (pl : Nat) (vl : Nat) (f : Nat) (pa : Nat) (pr : Nat) (cL : ClassId) (g : Nat → Int64) (p9 : Nat → Int64) (x : Int32) (hf9 : f ≤ 20) (sz : Nat) : ct_L l y_M_power w_M_power { frames := 2, cells := 0, slots := 0, locals := 80 } (dC, dI) cl9 [(cL, .long)] ct_G0 [.ref mx, .int x] [(mx, .inr (4, [.int th, .long sd, .int nt, .ref ro, .ref pl, .ref vl, .int (nI f), .ref pa, .ref pr])), (pa, .inl (cL, 240, .inr (.inl g))), (pr, .inl (cL, 48, .inr (.inl p9)))] sz (S := Int32 × Nat × S2) (fun v (u : Int32 × Nat × S2) => u.2.1 ≤ 20 ∧ u.1 = th_pw x ∧ v = vl_pw x (g, p9)) (fun _ : Int32 × Nat × S2 => [(cL, .long)]) (fun u : Int32 × Nat × S2 => [(mx, .inr (4, [.int u.1, .long sd, .int nt, .ref ro, .ref pl, .ref vl, .int (nI u.2.1), .ref pa, .ref pr])), (pa, .inl (cL, 240, .inr (.inl u.2.2.1))), (pr, .inl (cL, 48, .inr (.inl u.2.2.2)))]) 0 0 := by
  refine ct_of (Qf := fun A => va_Ql (fun v (u : Int32 × Nat × S2) => u.2.1 ≤ 20 ∧ u.1 = th_pw x ∧ v = vl_pw x (g, p9)) (ct_B (S := Int32 × Nat × S2) (dC, dI) cl9 (fun _ : Int32 × Nat × S2 => [(cL, .long)]) A (fun u : Int32 × Nat × S2 => [(mx, .inr (4, [.int u.1, .long sd, .int nt, .ref ro, .ref pl, .ref vl, .int (nI u.2.1), .ref pa, .ref pr])), (pa, .inl (cL, 240, .inr (.inl u.2.2.1))), (pr, .inl (cL, 48, .inr (.inl u.2.2.2)))])) A) (cc := b_M_power) (maxL := 5) (ret := ((some .long))) (by decide) rfl (Nat.le_of_ble_eq_true rfl) ?_
  intro p e s m below meth c A ls hF hA hP hK hD hG hS hl
  obtain ⟨hx, hb, hr, hml, hts, hown, hlocks, hnm⟩ := id hF
  have hown : s.vm.findClass R_M = some m.cls := hown
  have ha : ∀ w ∈ al_M, w.before [.ref mx, .int x].toArray s = true := fun w h => hts w (List.mem_cons_of_mem _ h)
  have hl : lv_has ls 5 [(0, .ref mx), (1, .int x)] := hl
  refine lv_aload_n hx hb d_M_power_0 rfl (lv_at hl 0 rfl) ?_
  refine lv_iload_n hx hb d_M_power_1 rfl (lv_at hl 1 rfl) ?_
  refine lv_ldc (v := (-20000000)) hx hb hown (ha _ wm_M_29) d_M_power_2 ?_
  refine lv_icmp_lt (tgt := 13) hx hb d_M_power_4 (by decide) (fun hc => ?_) (fun hc => ?_)
  · refine lv_iconst (v := 1) hx hb d_M_power_13 (by decide) ?_
    refine lv_goto (tgt := 18) hx hb d_M_power_14 (by decide) ?_
    refine va_put (D := (dC, dI)) (ci := 4) (v := .int 1) (ty := .int) (C := R_M) (T := F_M) (N := 9) hx hb ha ui_M ft_M tk_M nm_M hown hK hP hD hS 0 rfl rfl 0 (by decide) (ha _ wm_M_5) (fun _ h9 => h9) rfl (by decide +kernel) rfl rfl (Nat.le_of_ble_eq_true rfl) d_M_power_18 (fun H locs hP hD hS => ?_)
    have hP : va_P (dC, dI) cl9 [(mx, .inr (4, [.int 1, .long sd, .int nt, .ref ro, .ref pl, .ref vl, .int (nI f), .ref pa, .ref pr])), (pa, .inl (cL, 240, .inr (.inl g))), (pr, .inl (cL, 48, .inr (.inl p9)))] H := hP
    have hD : va_D A [(mx, .inr (4, [.int 1, .long sd, .int nt, .ref ro, .ref pl, .ref vl, .int (nI f), .ref pa, .ref pr])), (pa, .inl (cL, 240, .inr (.inl g))), (pr, .inl (cL, 48, .inr (.inl p9)))] := hD
    refine lv_aload_n hx hb d_M_power_21 rfl (lv_at hl 0 rfl) ?_
    refine va_get (D := (dC, dI)) (ci := 4) (v := .int 1) (C := R_M) (T := F_M) (N := 9) hx hb ha ui_M hown hK hP 0 rfl rfl 0 (by decide) (ha _ wm_M_5) (fun _ h9 => h9) rfl d_M_power_22 ?_
    refine lv_if_le (tgt := 30) hx hb d_M_power_25 (by decide) (fun hq => ?_) (fun hq => ?_)
    · exact absurd hq (by decide)
    · refine lv_lconst (v := 0) hx hb d_M_power_28 (by decide) ?_
      exact ct_lret hF d_M_power_29 (1, f, g, p9) ⟨hf9, (if_pos hc).symm, (if_pos hc).symm⟩ (hP.sub [0, 1, 2] rfl) (hD.sub [0, 1, 2] (by decide) rfl) hK hS
  · refine lv_iload_n hx hb d_M_power_7 rfl (lv_at hl 1 rfl) ?_
    refine lv_ldc (v := 20000000) hx hb hown (ha _ wm_M_30) d_M_power_8 ?_
    refine lv_icmp_le (tgt := 17) hx hb d_M_power_10 (by decide) (fun hd => ?_) (fun hd => ?_)
    · refine lv_iconst (v := 0) hx hb d_M_power_17 (by decide) ?_
      refine va_put (D := (dC, dI)) (ci := 4) (v := .int 0) (ty := .int) (C := R_M) (T := F_M) (N := 9) hx hb ha ui_M ft_M tk_M nm_M hown hK hP hD hS 0 rfl rfl 0 (by decide) (ha _ wm_M_5) (fun _ h9 => h9) rfl (by decide +kernel) rfl rfl (Nat.le_of_ble_eq_true rfl) d_M_power_18 (fun H locs hP hD hS => ?_)
      have hP : va_P (dC, dI) cl9 [(mx, .inr (4, [.int 0, .long sd, .int nt, .ref ro, .ref pl, .ref vl, .int (nI f), .ref pa, .ref pr])), (pa, .inl (cL, 240, .inr (.inl g))), (pr, .inl (cL, 48, .inr (.inl p9)))] H := hP
      have hD : va_D A [(mx, .inr (4, [.int 0, .long sd, .int nt, .ref ro, .ref pl, .ref vl, .int (nI f), .ref pa, .ref pr])), (pa, .inl (cL, 240, .inr (.inl g))), (pr, .inl (cL, 48, .inr (.inl p9)))] := hD
      refine lv_aload_n hx hb d_M_power_21 rfl (lv_at hl 0 rfl) ?_
      refine va_get (D := (dC, dI)) (ci := 4) (v := .int 0) (C := R_M) (T := F_M) (N := 9) hx hb ha ui_M hown hK hP 0 rfl rfl 0 (by decide) (ha _ wm_M_5) (fun _ h9 => h9) rfl d_M_power_22 ?_
      refine lv_if_le (tgt := 30) hx hb d_M_power_25 (by decide) (fun hq => ?_) (fun hq => ?_)
      · refine lv_iload_n hx hb d_M_power_30 rfl (lv_at hl 1 rfl) ?_
        refine lv_if_ne (tgt := 38) hx hb d_M_power_31 (by decide) (fun hx0 => ?_) (fun hx0 => ?_)
        · refine lv_lconst (v := 0) hx hb d_M_power_38 (by decide) ?_
          refine lv_lstore_n (lv' := [(2, .long 0), (0, .ref mx), (1, .int x)]) hx hb d_M_power_39 rfl hl (by decide) rfl (fun ls hl => ?_)
          refine lv_iconst (v := 1) hx hb d_M_power_40 (by decide) ?_
          refine lv_istore (lv' := [(4, .int 1), (2, .long 0), (0, .ref mx), (1, .int x)]) hx hb d_M_power_41 hl (by decide) rfl (fun ls hl => ?_)
          refine lv_aload_n hx hb d_M_power_43 rfl (lv_at hl 2 rfl) ?_
          refine lv_bipush (v := 11) hx hb d_M_power_44 (by decide) ?_
          refine va_put (D := (dC, dI)) (ci := 4) (v := .int 11) (ty := .int) (C := R_M) (T := F_M) (N := 9) hx hb ha ui_M ft_M tk_M nm_M hown hK hP hD hS 0 rfl rfl 6 (by decide) (ha _ wm_M_11) (fun _ h9 => h9) rfl (by decide +kernel) rfl rfl (Nat.le_of_ble_eq_true rfl) d_M_power_46 (fun H locs hP hD hS => ?_)
          have hP : va_P (dC, dI) cl9 [(mx, .inr (4, [.int 0, .long sd, .int nt, .ref ro, .ref pl, .ref vl, .int 11, .ref pa, .ref pr])), (pa, .inl (cL, 240, .inr (.inl g))), (pr, .inl (cL, 48, .inr (.inl p9)))] H := hP
          have hD : va_D A [(mx, .inr (4, [.int 0, .long sd, .int nt, .ref ro, .ref pl, .ref vl, .int 11, .ref pa, .ref pr])), (pa, .inl (cL, 240, .inr (.inl g))), (pr, .inl (cL, 48, .inr (.inl p9)))] := hD
          have hP : va_P (dC, dI) cl9 [(mx, .inr (4, [.int 0, .long sd, .int nt, .ref ro, .ref pl, .ref vl, .int (nI 11), .ref pa, .ref pr])), (pa, .inl (cL, 240, .inr (.inl g))), (pr, .inl (cL, 48, .inr (.inl p9)))] H := hP
          have hD : va_D A [(mx, .inr (4, [.int 0, .long sd, .int nt, .ref ro, .ref pl, .ref vl, .int (nI 11), .ref pa, .ref pr])), (pa, .inl (cL, 240, .inr (.inl g))), (pr, .inl (cL, 48, .inr (.inl p9)))] := hD
          refine lv_iload hx hb d_M_power_49 (lv_at hl 0 rfl) ?_
          refine lv_if_eq (tgt := 111) hx hb d_M_power_51 (by decide) (fun hq1 => ?_) (fun hq1 => ?_)
          · exact absurd hq1 (by decide)
          · refine lv_aload_n hx hb d_M_power_54 rfl (lv_at hl 2 rfl) ?_
            refine lv_bipush (v := 8) hx hb d_M_power_55 (by decide) ?_
            refine lv_iload_n hx hb d_M_power_57 rfl (lv_at hl 3 rfl) ?_
            refine lv_if_ge (tgt := 67) hx hb d_M_power_58 (by decide) (fun hs_1 => ?_) (fun hs_1 => ?_)
            · refine lv_iload_n hx hb d_M_power_67 rfl (lv_at hl 3 rfl) ?_
              refine lv_i2l hx hb d_M_power_68 rfl ?_
              rw [show ((x : Int32).toInt64 : Int64) = ab9 x from (if_pos hs_1).symm]
              refine lv_ldc2 (v := 1000000) hx hb hown (ha _ wm_M_32) d_M_power_69 ?_
              refine cs_callv (va_runV (As := [.int 8, .long (ab9 x), .long 1000000]) (rest := []) ⟨hx, hb, hml, hown, ha⟩ (c_M_ratio l dC dI mx 0 sd nt ro pl vl 11 pa pr cL g 8 (ab9 x) 1000000 (by omega) (by omega) (by decide) _) (cwV 3 ha g_M_M_ratio rfl rfl rfl (by decide +kernel) ⟨Nat.le_of_ble_eq_true rfl, Nat.le_of_ble_eq_true rfl⟩) (ct_preV ct_G0ok trivial hK hP hD hS hA [0, 1] rfl (by decide) [0] rfl 0 4 rfl rfl rfl) rfl rfl hl.1 rfl (lv_room (Nat.le_of_ble_eq_true rfl)) d_M_power_72 ⟨Nat.le_of_ble_eq_true rfl, Nat.le_of_ble_eq_true rfl⟩) hP hD hS hA [0, 1] rfl (by decide) (fun _ => rfl) (fun g_2 H locs hg_2 hP hD hS => ?_)
              have hP : va_P (dC, dI) cl9 [(mx, .inr (4, [.int 0, .long sd, .int nt, .ref ro, .ref pl, .ref vl, .int (nI 11), .ref pa, .ref pr])), (pa, .inl (cL, 240, .inr (.inl g_2))), (pr, .inl (cL, 48, .inr (.inl p9)))] H := hP
              have hD : va_D A [(mx, .inr (4, [.int 0, .long sd, .int nt, .ref ro, .ref pl, .ref vl, .int (nI 11), .ref pa, .ref pr])), (pa, .inl (cL, 240, .inr (.inl g_2))), (pr, .inl (cL, 48, .inr (.inl p9)))] := hD
              have hg_2 : g_2 = pw_x 11 x g := hg_2
              refine lv_aload_n hx hb d_M_power_75 rfl (lv_at hl 2 rfl) ?_
              refine lv_iload_n hx hb d_M_power_76 rfl (lv_at hl 3 rfl) ?_
              refine lv_if_ge (tgt := 84) hx hb d_M_power_77 (by decide) (fun hs_3 => ?_) (fun hs_3 => ?_)
              · refine lv_iconst (v := 0) hx hb d_M_power_84 (by decide) ?_
                rw [show (0 : Int32) = ng9 x from (if_pos hs_1).symm]
                have hX : ok 8 g_2 ∧ vv 8 g_2 24 ≤ 32 * 1000000 ^ 11 := by rw [hg_2]; exact pw_x32 (by omega) hc hd
                refine cs_callv (va_runV (As := [.int (ng9 x)]) (rest := []) ⟨hx, hb, hml, hown, ha⟩ (d_M_powerOf l dC dI mx 0 sd nt ro pl vl 11 pa pr cL g_2 p9 (ng9 x) (by omega) hX.1 hX.2 _) (cwV 1 ha g_M_M_powerOf rfl rfl rfl (by decide +kernel) ⟨Nat.le_of_ble_eq_true rfl, Nat.le_of_ble_eq_true rfl⟩) (ct_preV ct_G0ok trivial hK hP hD hS hA [0, 1, 2] rfl (by decide) [0] rfl 0 4 rfl rfl rfl) rfl rfl hl.1 rfl (lv_room (Nat.le_of_ble_eq_true rfl)) d_M_power_85 ⟨Nat.le_of_ble_eq_true rfl, Nat.le_of_ble_eq_true rfl⟩) hP hD hS hA [0, 1, 2] rfl (by decide) (fun _ => rfl) (fun z_4 H locs hz_4 hP hD hS => ?_)
                have hP : va_P (dC, dI) cl9 [(mx, .inr (4, [.int 0, .long sd, .int nt, .ref ro, .ref pl, .ref vl, .int (nI 11), .ref pa, .ref pr])), (pa, .inl (cL, 240, .inr (.inl z_4.1))), (pr, .inl (cL, 48, .inr (.inl z_4.2)))] H := hP
                have hD : va_D A [(mx, .inr (4, [.int 0, .long sd, .int nt, .ref ro, .ref pl, .ref vl, .int (nI 11), .ref pa, .ref pr])), (pa, .inl (cL, 240, .inr (.inl z_4.1))), (pr, .inl (cL, 48, .inr (.inl z_4.2)))] := hD
                obtain ⟨g_5, p_6⟩ := z_4
                have hg_5 : g_5 = (po 11 (ng9 x) g_2 p9).1 := congrArg Prod.fst hz_4
                have hp_6 : p_6 = (po 11 (ng9 x) g_2 p9).2 := congrArg Prod.snd hz_4
                have hP : va_P (dC, dI) cl9 [(mx, .inr (4, [.int 0, .long sd, .int nt, .ref ro, .ref pl, .ref vl, .int (nI 11), .ref pa, .ref pr])), (pa, .inl (cL, 240, .inr (.inl g_5))), (pr, .inl (cL, 48, .inr (.inl p_6)))] H := hP
                have hD : va_D A [(mx, .inr (4, [.int 0, .long sd, .int nt, .ref ro, .ref pl, .ref vl, .int (nI 11), .ref pa, .ref pr])), (pa, .inl (cL, 240, .inr (.inl g_5))), (pr, .inl (cL, 48, .inr (.inl p_6)))] := hD
                refine lv_aload_n hx hb d_M_power_88 rfl (lv_at hl 2 rfl) ?_
                refine lv_iconst (v := 0) hx hb d_M_power_89 (by decide) ?_
                refine lv_iconst (v := 0) hx hb d_M_power_90 (by decide) ?_
                refine cs_calll (va_runV (As := [.int 0, .int 0]) (rest := []) ⟨hx, hb, hml, hown, ha⟩ (c_M_told l dC dI mx 0 sd nt ro pl vl 11 pa pr cL g_5 0 0 (by omega) (by omega) _) (cwV 2 ha g_M_M_told rfl rfl rfl (by decide +kernel) ⟨Nat.le_of_ble_eq_true rfl, Nat.le_of_ble_eq_true rfl⟩) (ct_preV ct_G0ok trivial hK hP hD hS hA [0, 1] rfl (by decide) [0] rfl 0 4 rfl rfl rfl) rfl rfl hl.1 rfl (lv_room (Nat.le_of_ble_eq_true rfl)) d_M_power_91 ⟨Nat.le_of_ble_eq_true rfl, Nat.le_of_ble_eq_true rfl⟩) hP hD hS hA [0, 1] rfl (by decide) (fun _ => rfl) (fun v_8 g_7 H locs hg_7 hP hD hS => ?_)
                have hP : va_P (dC, dI) cl9 [(mx, .inr (4, [.int 0, .long sd, .int nt, .ref ro, .ref pl, .ref vl, .int (nI 11), .ref pa, .ref pr])), (pa, .inl (cL, 240, .inr (.inl g_7))), (pr, .inl (cL, 48, .inr (.inl p_6)))] H := hP
                have hD : va_D A [(mx, .inr (4, [.int 0, .long sd, .int nt, .ref ro, .ref pl, .ref vl, .int (nI 11), .ref pa, .ref pr])), (pa, .inl (cL, 240, .inr (.inl g_7))), (pr, .inl (cL, 48, .inr (.inl p_6)))] := hD
                obtain ⟨hg_7, hv_8⟩ := hg_7
                refine lv_lstore_n (lv' := [(2, .long v_8), (4, .int 1), (0, .ref mx), (1, .int x)]) hx hb d_M_power_94 rfl hl (by decide) rfl (fun ls hl => ?_)
                refine lv_aload_n hx hb d_M_power_95 rfl (lv_at hl 2 rfl) ?_
                refine lv_iconst (v := 0) hx hb d_M_power_96 (by decide) ?_
                have eP : pw_P x 11 (g, p9) = (g_7, p_6) := by rw [hg_7, hp_6, hg_5, hg_2]; rfl
                have eV : pw_V x 11 (g, p9) = v_8 := by show m_say 11 0 _ = _; rw [eP]; exact (hv_8).symm
                refine cs_calli (va_runV (As := [.int 0]) (rest := []) ⟨hx, hb, hml, hown, ha⟩ (c_M_isOpen l dC dI mx 0 sd nt ro pl vl pa pr cL g_7 0 (by omega) _) (cwV 1 ha g_M_M_isOpen rfl rfl rfl (by decide +kernel) ⟨Nat.le_of_ble_eq_true rfl, Nat.le_of_ble_eq_true rfl⟩) (ct_preV ct_G0ok trivial hK hP hD hS hA [0, 1] rfl (by decide) [0] rfl 0 4 rfl rfl rfl) rfl rfl hl.1 rfl (lv_room (Nat.le_of_ble_eq_true rfl)) d_M_power_97 ⟨Nat.le_of_ble_eq_true rfl, Nat.le_of_ble_eq_true rfl⟩) hP hD hS hA [0, 1] rfl (by decide) (fun _ => rfl) (fun o_9 u7 H locs ho_9 hP hD hS => ?_)
                have hP : va_P (dC, dI) cl9 [(mx, .inr (4, [.int 0, .long sd, .int nt, .ref ro, .ref pl, .ref vl, .int (nI 11), .ref pa, .ref pr])), (pa, .inl (cL, 240, .inr (.inl g_7))), (pr, .inl (cL, 48, .inr (.inl p_6)))] H := hP
                have hD : va_D A [(mx, .inr (4, [.int 0, .long sd, .int nt, .ref ro, .ref pl, .ref vl, .int (nI 11), .ref pa, .ref pr])), (pa, .inl (cL, 240, .inr (.inl g_7))), (pr, .inl (cL, 48, .inr (.inl p_6)))] := hD
                refine lv_istore (lv' := [(4, .int o_9), (2, .long v_8), (0, .ref mx), (1, .int x)]) hx hb d_M_power_100 hl (by decide) rfl (fun ls hl => ?_)
                refine lv_aload_n hx hb d_M_power_102 rfl (lv_at hl 2 rfl) ?_
                refine lv_bipush (v := 17) hx hb d_M_power_103 (by decide) ?_
                refine va_put (D := (dC, dI)) (ci := 4) (v := .int 17) (ty := .int) (C := R_M) (T := F_M) (N := 9) hx hb ha ui_M ft_M tk_M nm_M hown hK hP hD hS 0 rfl rfl 6 (by decide) (ha _ wm_M_11) (fun _ h9 => h9) rfl (by decide +kernel) rfl rfl (Nat.le_of_ble_eq_true rfl) d_M_power_105 (fun H locs hP hD hS => ?_)
                have hP : va_P (dC, dI) cl9 [(mx, .inr (4, [.int 0, .long sd, .int nt, .ref ro, .ref pl, .ref vl, .int 17, .ref pa, .ref pr])), (pa, .inl (cL, 240, .inr (.inl g_7))), (pr, .inl (cL, 48, .inr (.inl p_6)))] H := hP
                have hD : va_D A [(mx, .inr (4, [.int 0, .long sd, .int nt, .ref ro, .ref pl, .ref vl, .int 17, .ref pa, .ref pr])), (pa, .inl (cL, 240, .inr (.inl g_7))), (pr, .inl (cL, 48, .inr (.inl p_6)))] := hD
                have hP : va_P (dC, dI) cl9 [(mx, .inr (4, [.int 0, .long sd, .int nt, .ref ro, .ref pl, .ref vl, .int (nI 17), .ref pa, .ref pr])), (pa, .inl (cL, 240, .inr (.inl g_7))), (pr, .inl (cL, 48, .inr (.inl p_6)))] H := hP
                have hD : va_D A [(mx, .inr (4, [.int 0, .long sd, .int nt, .ref ro, .ref pl, .ref vl, .int (nI 17), .ref pa, .ref pr])), (pa, .inl (cL, 240, .inr (.inl g_7))), (pr, .inl (cL, 48, .inr (.inl p_6)))] := hD
                refine lv_goto (tgt := 49) hx hb d_M_power_108 (by decide) ?_
                refine lv_iload hx hb d_M_power_49 (lv_at hl 0 rfl) ?_
                refine lv_if_eq (tgt := 111) hx hb d_M_power_51 (by decide) (fun ho => ?_) (fun ho => ?_)
                · refine lv_lload_n hx hb d_M_power_111 rfl (lv_at hl 1 rfl) ?_
                  exact ct_lret hF d_M_power_112 (0, 17, g_7, p_6) ⟨(show (17 : Nat) ≤ 20 by decide), ((if_neg hc).trans (if_pos hd)).symm, ((if_neg hc).trans ((if_pos hd).trans ((if_neg hx0).trans ((if_pos (by rw [eP]; exact (ho_9.symm.trans ho))).trans eV)))).symm⟩ (hP.sub [0, 1, 2] rfl) (hD.sub [0, 1, 2] (by decide) rfl) hK hS
                · have ho2 : ¬ md_op 0 g_7 = 0 := fun q => ho (ho_9.trans q)
                  refine lv_aload_n hx hb d_M_power_54 rfl (lv_at hl 2 rfl) ?_
                  refine lv_bipush (v := 8) hx hb d_M_power_55 (by decide) ?_
                  refine lv_iload_n hx hb d_M_power_57 rfl (lv_at hl 3 rfl) ?_
                  refine lv_if_ge (tgt := 67) hx hb d_M_power_58 (by decide) (fun hs_10 => ?_) (fun hs_10 => ?_)
                  · refine lv_iload_n hx hb d_M_power_67 rfl (lv_at hl 3 rfl) ?_
                    refine lv_i2l hx hb d_M_power_68 rfl ?_
                    rw [show ((x : Int32).toInt64 : Int64) = ab9 x from (if_pos hs_1).symm]
                    refine lv_ldc2 (v := 1000000) hx hb hown (ha _ wm_M_32) d_M_power_69 ?_
                    refine cs_callv (va_runV (As := [.int 8, .long (ab9 x), .long 1000000]) (rest := []) ⟨hx, hb, hml, hown, ha⟩ (c_M_ratio l dC dI mx 0 sd nt ro pl vl 17 pa pr cL g_7 8 (ab9 x) 1000000 (by omega) (by omega) (by decide) _) (cwV 3 ha g_M_M_ratio rfl rfl rfl (by decide +kernel) ⟨Nat.le_of_ble_eq_true rfl, Nat.le_of_ble_eq_true rfl⟩) (ct_preV ct_G0ok trivial hK hP hD hS hA [0, 1] rfl (by decide) [0] rfl 0 4 rfl rfl rfl) rfl rfl hl.1 rfl (lv_room (Nat.le_of_ble_eq_true rfl)) d_M_power_72 ⟨Nat.le_of_ble_eq_true rfl, Nat.le_of_ble_eq_true rfl⟩) hP hD hS hA [0, 1] rfl (by decide) (fun _ => rfl) (fun g_11 H locs hg_11 hP hD hS => ?_)
                    have hP : va_P (dC, dI) cl9 [(mx, .inr (4, [.int 0, .long sd, .int nt, .ref ro, .ref pl, .ref vl, .int (nI 17), .ref pa, .ref pr])), (pa, .inl (cL, 240, .inr (.inl g_11))), (pr, .inl (cL, 48, .inr (.inl p_6)))] H := hP
                    have hD : va_D A [(mx, .inr (4, [.int 0, .long sd, .int nt, .ref ro, .ref pl, .ref vl, .int (nI 17), .ref pa, .ref pr])), (pa, .inl (cL, 240, .inr (.inl g_11))), (pr, .inl (cL, 48, .inr (.inl p_6)))] := hD
                    have hg_11 : g_11 = pw_x 17 x g_7 := hg_11
                    refine lv_aload_n hx hb d_M_power_75 rfl (lv_at hl 2 rfl) ?_
                    refine lv_iload_n hx hb d_M_power_76 rfl (lv_at hl 3 rfl) ?_
                    refine lv_if_ge (tgt := 84) hx hb d_M_power_77 (by decide) (fun hs_12 => ?_) (fun hs_12 => ?_)
                    · refine lv_iconst (v := 0) hx hb d_M_power_84 (by decide) ?_
                      rw [show (0 : Int32) = ng9 x from (if_pos hs_1).symm]
                      have hX : ok 8 g_11 ∧ vv 8 g_11 24 ≤ 32 * 1000000 ^ 17 := by rw [hg_11]; exact pw_x32 (by omega) hc hd
                      refine cs_callv (va_runV (As := [.int (ng9 x)]) (rest := []) ⟨hx, hb, hml, hown, ha⟩ (d_M_powerOf l dC dI mx 0 sd nt ro pl vl 17 pa pr cL g_11 p_6 (ng9 x) (by omega) hX.1 hX.2 _) (cwV 1 ha g_M_M_powerOf rfl rfl rfl (by decide +kernel) ⟨Nat.le_of_ble_eq_true rfl, Nat.le_of_ble_eq_true rfl⟩) (ct_preV ct_G0ok trivial hK hP hD hS hA [0, 1, 2] rfl (by decide) [0] rfl 0 4 rfl rfl rfl) rfl rfl hl.1 rfl (lv_room (Nat.le_of_ble_eq_true rfl)) d_M_power_85 ⟨Nat.le_of_ble_eq_true rfl, Nat.le_of_ble_eq_true rfl⟩) hP hD hS hA [0, 1, 2] rfl (by decide) (fun _ => rfl) (fun z_13 H locs hz_13 hP hD hS => ?_)
                      have hP : va_P (dC, dI) cl9 [(mx, .inr (4, [.int 0, .long sd, .int nt, .ref ro, .ref pl, .ref vl, .int (nI 17), .ref pa, .ref pr])), (pa, .inl (cL, 240, .inr (.inl z_13.1))), (pr, .inl (cL, 48, .inr (.inl z_13.2)))] H := hP
                      have hD : va_D A [(mx, .inr (4, [.int 0, .long sd, .int nt, .ref ro, .ref pl, .ref vl, .int (nI 17), .ref pa, .ref pr])), (pa, .inl (cL, 240, .inr (.inl z_13.1))), (pr, .inl (cL, 48, .inr (.inl z_13.2)))] := hD
                      obtain ⟨g_14, p_15⟩ := z_13
                      have hg_14 : g_14 = (po 17 (ng9 x) g_11 p_6).1 := congrArg Prod.fst hz_13
                      have hp_15 : p_15 = (po 17 (ng9 x) g_11 p_6).2 := congrArg Prod.snd hz_13
                      have hP : va_P (dC, dI) cl9 [(mx, .inr (4, [.int 0, .long sd, .int nt, .ref ro, .ref pl, .ref vl, .int (nI 17), .ref pa, .ref pr])), (pa, .inl (cL, 240, .inr (.inl g_14))), (pr, .inl (cL, 48, .inr (.inl p_15)))] H := hP
                      have hD : va_D A [(mx, .inr (4, [.int 0, .long sd, .int nt, .ref ro, .ref pl, .ref vl, .int (nI 17), .ref pa, .ref pr])), (pa, .inl (cL, 240, .inr (.inl g_14))), (pr, .inl (cL, 48, .inr (.inl p_15)))] := hD
                      refine lv_aload_n hx hb d_M_power_88 rfl (lv_at hl 2 rfl) ?_
                      refine lv_iconst (v := 0) hx hb d_M_power_89 (by decide) ?_
                      refine lv_iconst (v := 0) hx hb d_M_power_90 (by decide) ?_
                      refine cs_calll (va_runV (As := [.int 0, .int 0]) (rest := []) ⟨hx, hb, hml, hown, ha⟩ (c_M_told l dC dI mx 0 sd nt ro pl vl 17 pa pr cL g_14 0 0 (by omega) (by omega) _) (cwV 2 ha g_M_M_told rfl rfl rfl (by decide +kernel) ⟨Nat.le_of_ble_eq_true rfl, Nat.le_of_ble_eq_true rfl⟩) (ct_preV ct_G0ok trivial hK hP hD hS hA [0, 1] rfl (by decide) [0] rfl 0 4 rfl rfl rfl) rfl rfl hl.1 rfl (lv_room (Nat.le_of_ble_eq_true rfl)) d_M_power_91 ⟨Nat.le_of_ble_eq_true rfl, Nat.le_of_ble_eq_true rfl⟩) hP hD hS hA [0, 1] rfl (by decide) (fun _ => rfl) (fun v_17 g_16 H locs hg_16 hP hD hS => ?_)
                      have hP : va_P (dC, dI) cl9 [(mx, .inr (4, [.int 0, .long sd, .int nt, .ref ro, .ref pl, .ref vl, .int (nI 17), .ref pa, .ref pr])), (pa, .inl (cL, 240, .inr (.inl g_16))), (pr, .inl (cL, 48, .inr (.inl p_15)))] H := hP
                      have hD : va_D A [(mx, .inr (4, [.int 0, .long sd, .int nt, .ref ro, .ref pl, .ref vl, .int (nI 17), .ref pa, .ref pr])), (pa, .inl (cL, 240, .inr (.inl g_16))), (pr, .inl (cL, 48, .inr (.inl p_15)))] := hD
                      obtain ⟨hg_16, hv_17⟩ := hg_16
                      refine lv_lstore_n (lv' := [(2, .long v_17), (4, .int o_9), (0, .ref mx), (1, .int x)]) hx hb d_M_power_94 rfl hl (by decide) rfl (fun ls hl => ?_)
                      refine lv_aload_n hx hb d_M_power_95 rfl (lv_at hl 2 rfl) ?_
                      refine lv_iconst (v := 0) hx hb d_M_power_96 (by decide) ?_
                      have eP2 : pw_P x 17 (g_7, p_6) = (g_16, p_15) := by rw [hg_16, hp_15, hg_14, hg_11]; rfl
                      have eV2 : pw_V x 17 (g_7, p_6) = v_17 := by show m_say 17 0 _ = _; rw [eP2]; exact (hv_17).symm
                      refine cs_calli (va_runV (As := [.int 0]) (rest := []) ⟨hx, hb, hml, hown, ha⟩ (c_M_isOpen17 l dC dI mx 0 sd nt ro pl vl pa pr cL g_16 0 (by omega) _) (cwV 1 ha g_M_M_isOpen rfl rfl rfl (by decide +kernel) ⟨Nat.le_of_ble_eq_true rfl, Nat.le_of_ble_eq_true rfl⟩) (ct_preV ct_G0ok trivial hK hP hD hS hA [0, 1] rfl (by decide) [0] rfl 0 4 rfl rfl rfl) rfl rfl hl.1 rfl (lv_room (Nat.le_of_ble_eq_true rfl)) d_M_power_97 ⟨Nat.le_of_ble_eq_true rfl, Nat.le_of_ble_eq_true rfl⟩) hP hD hS hA [0, 1] rfl (by decide) (fun _ => rfl) (fun o_18 u7 H locs ho_18 hP hD hS => ?_)
                      have hP : va_P (dC, dI) cl9 [(mx, .inr (4, [.int 0, .long sd, .int nt, .ref ro, .ref pl, .ref vl, .int (nI 17), .ref pa, .ref pr])), (pa, .inl (cL, 240, .inr (.inl g_16))), (pr, .inl (cL, 48, .inr (.inl p_15)))] H := hP
                      have hD : va_D A [(mx, .inr (4, [.int 0, .long sd, .int nt, .ref ro, .ref pl, .ref vl, .int (nI 17), .ref pa, .ref pr])), (pa, .inl (cL, 240, .inr (.inl g_16))), (pr, .inl (cL, 48, .inr (.inl p_15)))] := hD
                      refine lv_istore (lv' := [(4, .int o_18), (2, .long v_17), (0, .ref mx), (1, .int x)]) hx hb d_M_power_100 hl (by decide) rfl (fun ls hl => ?_)
                      refine lv_aload_n hx hb d_M_power_102 rfl (lv_at hl 2 rfl) ?_
                      refine lv_bipush (v := 17) hx hb d_M_power_103 (by decide) ?_
                      refine va_put (D := (dC, dI)) (ci := 4) (v := .int 17) (ty := .int) (C := R_M) (T := F_M) (N := 9) hx hb ha ui_M ft_M tk_M nm_M hown hK hP hD hS 0 rfl rfl 6 (by decide) (ha _ wm_M_11) (fun _ h9 => h9) rfl (by decide +kernel) rfl rfl (Nat.le_of_ble_eq_true rfl) d_M_power_105 (fun H locs hP hD hS => ?_)
                      have hP : va_P (dC, dI) cl9 [(mx, .inr (4, [.int 0, .long sd, .int nt, .ref ro, .ref pl, .ref vl, .int 17, .ref pa, .ref pr])), (pa, .inl (cL, 240, .inr (.inl g_16))), (pr, .inl (cL, 48, .inr (.inl p_15)))] H := hP
                      have hD : va_D A [(mx, .inr (4, [.int 0, .long sd, .int nt, .ref ro, .ref pl, .ref vl, .int 17, .ref pa, .ref pr])), (pa, .inl (cL, 240, .inr (.inl g_16))), (pr, .inl (cL, 48, .inr (.inl p_15)))] := hD
                      have hP : va_P (dC, dI) cl9 [(mx, .inr (4, [.int 0, .long sd, .int nt, .ref ro, .ref pl, .ref vl, .int (nI 17), .ref pa, .ref pr])), (pa, .inl (cL, 240, .inr (.inl g_16))), (pr, .inl (cL, 48, .inr (.inl p_15)))] H := hP
                      have hD : va_D A [(mx, .inr (4, [.int 0, .long sd, .int nt, .ref ro, .ref pl, .ref vl, .int (nI 17), .ref pa, .ref pr])), (pa, .inl (cL, 240, .inr (.inl g_16))), (pr, .inl (cL, 48, .inr (.inl p_15)))] := hD
                      refine lv_goto (tgt := 49) hx hb d_M_power_108 (by decide) ?_
                      refine lv_iload hx hb d_M_power_49 (lv_at hl 0 rfl) ?_
                      refine lv_if_eq (tgt := 111) hx hb d_M_power_51 (by decide) (fun ho3 => ?_) (fun ho3 => ?_)
                      · refine lv_lload_n hx hb d_M_power_111 rfl (lv_at hl 1 rfl) ?_
                        exact ct_lret hF d_M_power_112 (0, 17, g_16, p_15) ⟨(show (17 : Nat) ≤ 20 by decide), ((if_neg hc).trans (if_pos hd)).symm, ((if_neg hc).trans ((if_pos hd).trans ((if_neg hx0).trans ((if_neg (by rw [eP]; exact ho2)).trans (by rw [eP]; exact eV2))))).symm⟩ (hP.sub [0, 1, 2] rfl) (hD.sub [0, 1, 2] (by decide) rfl) hK hS
                      · exact absurd ho_18 ho3
                    · exact absurd hs_1 hs_12
                  · exact absurd hs_1 hs_10
              · exact absurd hs_1 hs_3
            · refine lv_iload_n hx hb d_M_power_61 rfl (lv_at hl 3 rfl) ?_
              refine lv_ineg hx hb d_M_power_62 ?_
              refine lv_i2l hx hb d_M_power_63 rfl ?_
              refine lv_goto (tgt := 69) hx hb d_M_power_64 (by decide) ?_
              rw [show (((-x) : Int32).toInt64 : Int64) = ab9 x from (if_neg hs_1).symm]
              refine lv_ldc2 (v := 1000000) hx hb hown (ha _ wm_M_32) d_M_power_69 ?_
              refine cs_callv (va_runV (As := [.int 8, .long (ab9 x), .long 1000000]) (rest := []) ⟨hx, hb, hml, hown, ha⟩ (c_M_ratio l dC dI mx 0 sd nt ro pl vl 11 pa pr cL g 8 (ab9 x) 1000000 (by omega) (by omega) (by decide) _) (cwV 3 ha g_M_M_ratio rfl rfl rfl (by decide +kernel) ⟨Nat.le_of_ble_eq_true rfl, Nat.le_of_ble_eq_true rfl⟩) (ct_preV ct_G0ok trivial hK hP hD hS hA [0, 1] rfl (by decide) [0] rfl 0 4 rfl rfl rfl) rfl rfl hl.1 rfl (lv_room (Nat.le_of_ble_eq_true rfl)) d_M_power_72 ⟨Nat.le_of_ble_eq_true rfl, Nat.le_of_ble_eq_true rfl⟩) hP hD hS hA [0, 1] rfl (by decide) (fun _ => rfl) (fun g_19 H locs hg_19 hP hD hS => ?_)
              have hP : va_P (dC, dI) cl9 [(mx, .inr (4, [.int 0, .long sd, .int nt, .ref ro, .ref pl, .ref vl, .int (nI 11), .ref pa, .ref pr])), (pa, .inl (cL, 240, .inr (.inl g_19))), (pr, .inl (cL, 48, .inr (.inl p9)))] H := hP
              have hD : va_D A [(mx, .inr (4, [.int 0, .long sd, .int nt, .ref ro, .ref pl, .ref vl, .int (nI 11), .ref pa, .ref pr])), (pa, .inl (cL, 240, .inr (.inl g_19))), (pr, .inl (cL, 48, .inr (.inl p9)))] := hD
              have hg_19 : g_19 = pw_x 11 x g := hg_19
              refine lv_aload_n hx hb d_M_power_75 rfl (lv_at hl 2 rfl) ?_
              refine lv_iload_n hx hb d_M_power_76 rfl (lv_at hl 3 rfl) ?_
              refine lv_if_ge (tgt := 84) hx hb d_M_power_77 (by decide) (fun hs_20 => ?_) (fun hs_20 => ?_)
              · exact absurd hs_20 hs_1
              · refine lv_iconst (v := 1) hx hb d_M_power_80 (by decide) ?_
                refine lv_goto (tgt := 85) hx hb d_M_power_81 (by decide) ?_
                rw [show (1 : Int32) = ng9 x from (if_neg hs_1).symm]
                have hX : ok 8 g_19 ∧ vv 8 g_19 24 ≤ 32 * 1000000 ^ 11 := by rw [hg_19]; exact pw_x32 (by omega) hc hd
                refine cs_callv (va_runV (As := [.int (ng9 x)]) (rest := []) ⟨hx, hb, hml, hown, ha⟩ (d_M_powerOf l dC dI mx 0 sd nt ro pl vl 11 pa pr cL g_19 p9 (ng9 x) (by omega) hX.1 hX.2 _) (cwV 1 ha g_M_M_powerOf rfl rfl rfl (by decide +kernel) ⟨Nat.le_of_ble_eq_true rfl, Nat.le_of_ble_eq_true rfl⟩) (ct_preV ct_G0ok trivial hK hP hD hS hA [0, 1, 2] rfl (by decide) [0] rfl 0 4 rfl rfl rfl) rfl rfl hl.1 rfl (lv_room (Nat.le_of_ble_eq_true rfl)) d_M_power_85 ⟨Nat.le_of_ble_eq_true rfl, Nat.le_of_ble_eq_true rfl⟩) hP hD hS hA [0, 1, 2] rfl (by decide) (fun _ => rfl) (fun z_21 H locs hz_21 hP hD hS => ?_)
                have hP : va_P (dC, dI) cl9 [(mx, .inr (4, [.int 0, .long sd, .int nt, .ref ro, .ref pl, .ref vl, .int (nI 11), .ref pa, .ref pr])), (pa, .inl (cL, 240, .inr (.inl z_21.1))), (pr, .inl (cL, 48, .inr (.inl z_21.2)))] H := hP
                have hD : va_D A [(mx, .inr (4, [.int 0, .long sd, .int nt, .ref ro, .ref pl, .ref vl, .int (nI 11), .ref pa, .ref pr])), (pa, .inl (cL, 240, .inr (.inl z_21.1))), (pr, .inl (cL, 48, .inr (.inl z_21.2)))] := hD
                obtain ⟨g_22, p_23⟩ := z_21
                have hg_22 : g_22 = (po 11 (ng9 x) g_19 p9).1 := congrArg Prod.fst hz_21
                have hp_23 : p_23 = (po 11 (ng9 x) g_19 p9).2 := congrArg Prod.snd hz_21
                have hP : va_P (dC, dI) cl9 [(mx, .inr (4, [.int 0, .long sd, .int nt, .ref ro, .ref pl, .ref vl, .int (nI 11), .ref pa, .ref pr])), (pa, .inl (cL, 240, .inr (.inl g_22))), (pr, .inl (cL, 48, .inr (.inl p_23)))] H := hP
                have hD : va_D A [(mx, .inr (4, [.int 0, .long sd, .int nt, .ref ro, .ref pl, .ref vl, .int (nI 11), .ref pa, .ref pr])), (pa, .inl (cL, 240, .inr (.inl g_22))), (pr, .inl (cL, 48, .inr (.inl p_23)))] := hD
                refine lv_aload_n hx hb d_M_power_88 rfl (lv_at hl 2 rfl) ?_
                refine lv_iconst (v := 0) hx hb d_M_power_89 (by decide) ?_
                refine lv_iconst (v := 0) hx hb d_M_power_90 (by decide) ?_
                refine cs_calll (va_runV (As := [.int 0, .int 0]) (rest := []) ⟨hx, hb, hml, hown, ha⟩ (c_M_told l dC dI mx 0 sd nt ro pl vl 11 pa pr cL g_22 0 0 (by omega) (by omega) _) (cwV 2 ha g_M_M_told rfl rfl rfl (by decide +kernel) ⟨Nat.le_of_ble_eq_true rfl, Nat.le_of_ble_eq_true rfl⟩) (ct_preV ct_G0ok trivial hK hP hD hS hA [0, 1] rfl (by decide) [0] rfl 0 4 rfl rfl rfl) rfl rfl hl.1 rfl (lv_room (Nat.le_of_ble_eq_true rfl)) d_M_power_91 ⟨Nat.le_of_ble_eq_true rfl, Nat.le_of_ble_eq_true rfl⟩) hP hD hS hA [0, 1] rfl (by decide) (fun _ => rfl) (fun v_25 g_24 H locs hg_24 hP hD hS => ?_)
                have hP : va_P (dC, dI) cl9 [(mx, .inr (4, [.int 0, .long sd, .int nt, .ref ro, .ref pl, .ref vl, .int (nI 11), .ref pa, .ref pr])), (pa, .inl (cL, 240, .inr (.inl g_24))), (pr, .inl (cL, 48, .inr (.inl p_23)))] H := hP
                have hD : va_D A [(mx, .inr (4, [.int 0, .long sd, .int nt, .ref ro, .ref pl, .ref vl, .int (nI 11), .ref pa, .ref pr])), (pa, .inl (cL, 240, .inr (.inl g_24))), (pr, .inl (cL, 48, .inr (.inl p_23)))] := hD
                obtain ⟨hg_24, hv_25⟩ := hg_24
                refine lv_lstore_n (lv' := [(2, .long v_25), (4, .int 1), (0, .ref mx), (1, .int x)]) hx hb d_M_power_94 rfl hl (by decide) rfl (fun ls hl => ?_)
                refine lv_aload_n hx hb d_M_power_95 rfl (lv_at hl 2 rfl) ?_
                refine lv_iconst (v := 0) hx hb d_M_power_96 (by decide) ?_
                have eP : pw_P x 11 (g, p9) = (g_24, p_23) := by rw [hg_24, hp_23, hg_22, hg_19]; rfl
                have eV : pw_V x 11 (g, p9) = v_25 := by show m_say 11 0 _ = _; rw [eP]; exact (hv_25).symm
                refine cs_calli (va_runV (As := [.int 0]) (rest := []) ⟨hx, hb, hml, hown, ha⟩ (c_M_isOpen l dC dI mx 0 sd nt ro pl vl pa pr cL g_24 0 (by omega) _) (cwV 1 ha g_M_M_isOpen rfl rfl rfl (by decide +kernel) ⟨Nat.le_of_ble_eq_true rfl, Nat.le_of_ble_eq_true rfl⟩) (ct_preV ct_G0ok trivial hK hP hD hS hA [0, 1] rfl (by decide) [0] rfl 0 4 rfl rfl rfl) rfl rfl hl.1 rfl (lv_room (Nat.le_of_ble_eq_true rfl)) d_M_power_97 ⟨Nat.le_of_ble_eq_true rfl, Nat.le_of_ble_eq_true rfl⟩) hP hD hS hA [0, 1] rfl (by decide) (fun _ => rfl) (fun o_26 u7 H locs ho_26 hP hD hS => ?_)
                have hP : va_P (dC, dI) cl9 [(mx, .inr (4, [.int 0, .long sd, .int nt, .ref ro, .ref pl, .ref vl, .int (nI 11), .ref pa, .ref pr])), (pa, .inl (cL, 240, .inr (.inl g_24))), (pr, .inl (cL, 48, .inr (.inl p_23)))] H := hP
                have hD : va_D A [(mx, .inr (4, [.int 0, .long sd, .int nt, .ref ro, .ref pl, .ref vl, .int (nI 11), .ref pa, .ref pr])), (pa, .inl (cL, 240, .inr (.inl g_24))), (pr, .inl (cL, 48, .inr (.inl p_23)))] := hD
                refine lv_istore (lv' := [(4, .int o_26), (2, .long v_25), (0, .ref mx), (1, .int x)]) hx hb d_M_power_100 hl (by decide) rfl (fun ls hl => ?_)
                refine lv_aload_n hx hb d_M_power_102 rfl (lv_at hl 2 rfl) ?_
                refine lv_bipush (v := 17) hx hb d_M_power_103 (by decide) ?_
                refine va_put (D := (dC, dI)) (ci := 4) (v := .int 17) (ty := .int) (C := R_M) (T := F_M) (N := 9) hx hb ha ui_M ft_M tk_M nm_M hown hK hP hD hS 0 rfl rfl 6 (by decide) (ha _ wm_M_11) (fun _ h9 => h9) rfl (by decide +kernel) rfl rfl (Nat.le_of_ble_eq_true rfl) d_M_power_105 (fun H locs hP hD hS => ?_)
                have hP : va_P (dC, dI) cl9 [(mx, .inr (4, [.int 0, .long sd, .int nt, .ref ro, .ref pl, .ref vl, .int 17, .ref pa, .ref pr])), (pa, .inl (cL, 240, .inr (.inl g_24))), (pr, .inl (cL, 48, .inr (.inl p_23)))] H := hP
                have hD : va_D A [(mx, .inr (4, [.int 0, .long sd, .int nt, .ref ro, .ref pl, .ref vl, .int 17, .ref pa, .ref pr])), (pa, .inl (cL, 240, .inr (.inl g_24))), (pr, .inl (cL, 48, .inr (.inl p_23)))] := hD
                have hP : va_P (dC, dI) cl9 [(mx, .inr (4, [.int 0, .long sd, .int nt, .ref ro, .ref pl, .ref vl, .int (nI 17), .ref pa, .ref pr])), (pa, .inl (cL, 240, .inr (.inl g_24))), (pr, .inl (cL, 48, .inr (.inl p_23)))] H := hP
                have hD : va_D A [(mx, .inr (4, [.int 0, .long sd, .int nt, .ref ro, .ref pl, .ref vl, .int (nI 17), .ref pa, .ref pr])), (pa, .inl (cL, 240, .inr (.inl g_24))), (pr, .inl (cL, 48, .inr (.inl p_23)))] := hD
                refine lv_goto (tgt := 49) hx hb d_M_power_108 (by decide) ?_
                refine lv_iload hx hb d_M_power_49 (lv_at hl 0 rfl) ?_
                refine lv_if_eq (tgt := 111) hx hb d_M_power_51 (by decide) (fun ho => ?_) (fun ho => ?_)
                · refine lv_lload_n hx hb d_M_power_111 rfl (lv_at hl 1 rfl) ?_
                  exact ct_lret hF d_M_power_112 (0, 17, g_24, p_23) ⟨(show (17 : Nat) ≤ 20 by decide), ((if_neg hc).trans (if_pos hd)).symm, ((if_neg hc).trans ((if_pos hd).trans ((if_neg hx0).trans ((if_pos (by rw [eP]; exact (ho_26.symm.trans ho))).trans eV)))).symm⟩ (hP.sub [0, 1, 2] rfl) (hD.sub [0, 1, 2] (by decide) rfl) hK hS
                · have ho2 : ¬ md_op 0 g_24 = 0 := fun q => ho (ho_26.trans q)
                  refine lv_aload_n hx hb d_M_power_54 rfl (lv_at hl 2 rfl) ?_
                  refine lv_bipush (v := 8) hx hb d_M_power_55 (by decide) ?_
                  refine lv_iload_n hx hb d_M_power_57 rfl (lv_at hl 3 rfl) ?_
                  refine lv_if_ge (tgt := 67) hx hb d_M_power_58 (by decide) (fun hs_27 => ?_) (fun hs_27 => ?_)
                  · exact absurd hs_27 hs_1
                  · refine lv_iload_n hx hb d_M_power_61 rfl (lv_at hl 3 rfl) ?_
                    refine lv_ineg hx hb d_M_power_62 ?_
                    refine lv_i2l hx hb d_M_power_63 rfl ?_
                    refine lv_goto (tgt := 69) hx hb d_M_power_64 (by decide) ?_
                    rw [show (((-x) : Int32).toInt64 : Int64) = ab9 x from (if_neg hs_1).symm]
                    refine lv_ldc2 (v := 1000000) hx hb hown (ha _ wm_M_32) d_M_power_69 ?_
                    refine cs_callv (va_runV (As := [.int 8, .long (ab9 x), .long 1000000]) (rest := []) ⟨hx, hb, hml, hown, ha⟩ (c_M_ratio l dC dI mx 0 sd nt ro pl vl 17 pa pr cL g_24 8 (ab9 x) 1000000 (by omega) (by omega) (by decide) _) (cwV 3 ha g_M_M_ratio rfl rfl rfl (by decide +kernel) ⟨Nat.le_of_ble_eq_true rfl, Nat.le_of_ble_eq_true rfl⟩) (ct_preV ct_G0ok trivial hK hP hD hS hA [0, 1] rfl (by decide) [0] rfl 0 4 rfl rfl rfl) rfl rfl hl.1 rfl (lv_room (Nat.le_of_ble_eq_true rfl)) d_M_power_72 ⟨Nat.le_of_ble_eq_true rfl, Nat.le_of_ble_eq_true rfl⟩) hP hD hS hA [0, 1] rfl (by decide) (fun _ => rfl) (fun g_28 H locs hg_28 hP hD hS => ?_)
                    have hP : va_P (dC, dI) cl9 [(mx, .inr (4, [.int 0, .long sd, .int nt, .ref ro, .ref pl, .ref vl, .int (nI 17), .ref pa, .ref pr])), (pa, .inl (cL, 240, .inr (.inl g_28))), (pr, .inl (cL, 48, .inr (.inl p_23)))] H := hP
                    have hD : va_D A [(mx, .inr (4, [.int 0, .long sd, .int nt, .ref ro, .ref pl, .ref vl, .int (nI 17), .ref pa, .ref pr])), (pa, .inl (cL, 240, .inr (.inl g_28))), (pr, .inl (cL, 48, .inr (.inl p_23)))] := hD
                    have hg_28 : g_28 = pw_x 17 x g_24 := hg_28
                    refine lv_aload_n hx hb d_M_power_75 rfl (lv_at hl 2 rfl) ?_
                    refine lv_iload_n hx hb d_M_power_76 rfl (lv_at hl 3 rfl) ?_
                    refine lv_if_ge (tgt := 84) hx hb d_M_power_77 (by decide) (fun hs_29 => ?_) (fun hs_29 => ?_)
                    · exact absurd hs_29 hs_1
                    · refine lv_iconst (v := 1) hx hb d_M_power_80 (by decide) ?_
                      refine lv_goto (tgt := 85) hx hb d_M_power_81 (by decide) ?_
                      rw [show (1 : Int32) = ng9 x from (if_neg hs_1).symm]
                      have hX : ok 8 g_28 ∧ vv 8 g_28 24 ≤ 32 * 1000000 ^ 17 := by rw [hg_28]; exact pw_x32 (by omega) hc hd
                      refine cs_callv (va_runV (As := [.int (ng9 x)]) (rest := []) ⟨hx, hb, hml, hown, ha⟩ (d_M_powerOf l dC dI mx 0 sd nt ro pl vl 17 pa pr cL g_28 p_23 (ng9 x) (by omega) hX.1 hX.2 _) (cwV 1 ha g_M_M_powerOf rfl rfl rfl (by decide +kernel) ⟨Nat.le_of_ble_eq_true rfl, Nat.le_of_ble_eq_true rfl⟩) (ct_preV ct_G0ok trivial hK hP hD hS hA [0, 1, 2] rfl (by decide) [0] rfl 0 4 rfl rfl rfl) rfl rfl hl.1 rfl (lv_room (Nat.le_of_ble_eq_true rfl)) d_M_power_85 ⟨Nat.le_of_ble_eq_true rfl, Nat.le_of_ble_eq_true rfl⟩) hP hD hS hA [0, 1, 2] rfl (by decide) (fun _ => rfl) (fun z_30 H locs hz_30 hP hD hS => ?_)
                      have hP : va_P (dC, dI) cl9 [(mx, .inr (4, [.int 0, .long sd, .int nt, .ref ro, .ref pl, .ref vl, .int (nI 17), .ref pa, .ref pr])), (pa, .inl (cL, 240, .inr (.inl z_30.1))), (pr, .inl (cL, 48, .inr (.inl z_30.2)))] H := hP
                      have hD : va_D A [(mx, .inr (4, [.int 0, .long sd, .int nt, .ref ro, .ref pl, .ref vl, .int (nI 17), .ref pa, .ref pr])), (pa, .inl (cL, 240, .inr (.inl z_30.1))), (pr, .inl (cL, 48, .inr (.inl z_30.2)))] := hD
                      obtain ⟨g_31, p_32⟩ := z_30
                      have hg_31 : g_31 = (po 17 (ng9 x) g_28 p_23).1 := congrArg Prod.fst hz_30
                      have hp_32 : p_32 = (po 17 (ng9 x) g_28 p_23).2 := congrArg Prod.snd hz_30
                      have hP : va_P (dC, dI) cl9 [(mx, .inr (4, [.int 0, .long sd, .int nt, .ref ro, .ref pl, .ref vl, .int (nI 17), .ref pa, .ref pr])), (pa, .inl (cL, 240, .inr (.inl g_31))), (pr, .inl (cL, 48, .inr (.inl p_32)))] H := hP
                      have hD : va_D A [(mx, .inr (4, [.int 0, .long sd, .int nt, .ref ro, .ref pl, .ref vl, .int (nI 17), .ref pa, .ref pr])), (pa, .inl (cL, 240, .inr (.inl g_31))), (pr, .inl (cL, 48, .inr (.inl p_32)))] := hD
                      refine lv_aload_n hx hb d_M_power_88 rfl (lv_at hl 2 rfl) ?_
                      refine lv_iconst (v := 0) hx hb d_M_power_89 (by decide) ?_
                      refine lv_iconst (v := 0) hx hb d_M_power_90 (by decide) ?_
                      refine cs_calll (va_runV (As := [.int 0, .int 0]) (rest := []) ⟨hx, hb, hml, hown, ha⟩ (c_M_told l dC dI mx 0 sd nt ro pl vl 17 pa pr cL g_31 0 0 (by omega) (by omega) _) (cwV 2 ha g_M_M_told rfl rfl rfl (by decide +kernel) ⟨Nat.le_of_ble_eq_true rfl, Nat.le_of_ble_eq_true rfl⟩) (ct_preV ct_G0ok trivial hK hP hD hS hA [0, 1] rfl (by decide) [0] rfl 0 4 rfl rfl rfl) rfl rfl hl.1 rfl (lv_room (Nat.le_of_ble_eq_true rfl)) d_M_power_91 ⟨Nat.le_of_ble_eq_true rfl, Nat.le_of_ble_eq_true rfl⟩) hP hD hS hA [0, 1] rfl (by decide) (fun _ => rfl) (fun v_34 g_33 H locs hg_33 hP hD hS => ?_)
                      have hP : va_P (dC, dI) cl9 [(mx, .inr (4, [.int 0, .long sd, .int nt, .ref ro, .ref pl, .ref vl, .int (nI 17), .ref pa, .ref pr])), (pa, .inl (cL, 240, .inr (.inl g_33))), (pr, .inl (cL, 48, .inr (.inl p_32)))] H := hP
                      have hD : va_D A [(mx, .inr (4, [.int 0, .long sd, .int nt, .ref ro, .ref pl, .ref vl, .int (nI 17), .ref pa, .ref pr])), (pa, .inl (cL, 240, .inr (.inl g_33))), (pr, .inl (cL, 48, .inr (.inl p_32)))] := hD
                      obtain ⟨hg_33, hv_34⟩ := hg_33
                      refine lv_lstore_n (lv' := [(2, .long v_34), (4, .int o_26), (0, .ref mx), (1, .int x)]) hx hb d_M_power_94 rfl hl (by decide) rfl (fun ls hl => ?_)
                      refine lv_aload_n hx hb d_M_power_95 rfl (lv_at hl 2 rfl) ?_
                      refine lv_iconst (v := 0) hx hb d_M_power_96 (by decide) ?_
                      have eP2 : pw_P x 17 (g_24, p_23) = (g_33, p_32) := by rw [hg_33, hp_32, hg_31, hg_28]; rfl
                      have eV2 : pw_V x 17 (g_24, p_23) = v_34 := by show m_say 17 0 _ = _; rw [eP2]; exact (hv_34).symm
                      refine cs_calli (va_runV (As := [.int 0]) (rest := []) ⟨hx, hb, hml, hown, ha⟩ (c_M_isOpen17 l dC dI mx 0 sd nt ro pl vl pa pr cL g_33 0 (by omega) _) (cwV 1 ha g_M_M_isOpen rfl rfl rfl (by decide +kernel) ⟨Nat.le_of_ble_eq_true rfl, Nat.le_of_ble_eq_true rfl⟩) (ct_preV ct_G0ok trivial hK hP hD hS hA [0, 1] rfl (by decide) [0] rfl 0 4 rfl rfl rfl) rfl rfl hl.1 rfl (lv_room (Nat.le_of_ble_eq_true rfl)) d_M_power_97 ⟨Nat.le_of_ble_eq_true rfl, Nat.le_of_ble_eq_true rfl⟩) hP hD hS hA [0, 1] rfl (by decide) (fun _ => rfl) (fun o_35 u7 H locs ho_35 hP hD hS => ?_)
                      have hP : va_P (dC, dI) cl9 [(mx, .inr (4, [.int 0, .long sd, .int nt, .ref ro, .ref pl, .ref vl, .int (nI 17), .ref pa, .ref pr])), (pa, .inl (cL, 240, .inr (.inl g_33))), (pr, .inl (cL, 48, .inr (.inl p_32)))] H := hP
                      have hD : va_D A [(mx, .inr (4, [.int 0, .long sd, .int nt, .ref ro, .ref pl, .ref vl, .int (nI 17), .ref pa, .ref pr])), (pa, .inl (cL, 240, .inr (.inl g_33))), (pr, .inl (cL, 48, .inr (.inl p_32)))] := hD
                      refine lv_istore (lv' := [(4, .int o_35), (2, .long v_34), (0, .ref mx), (1, .int x)]) hx hb d_M_power_100 hl (by decide) rfl (fun ls hl => ?_)
                      refine lv_aload_n hx hb d_M_power_102 rfl (lv_at hl 2 rfl) ?_
                      refine lv_bipush (v := 17) hx hb d_M_power_103 (by decide) ?_
                      refine va_put (D := (dC, dI)) (ci := 4) (v := .int 17) (ty := .int) (C := R_M) (T := F_M) (N := 9) hx hb ha ui_M ft_M tk_M nm_M hown hK hP hD hS 0 rfl rfl 6 (by decide) (ha _ wm_M_11) (fun _ h9 => h9) rfl (by decide +kernel) rfl rfl (Nat.le_of_ble_eq_true rfl) d_M_power_105 (fun H locs hP hD hS => ?_)
                      have hP : va_P (dC, dI) cl9 [(mx, .inr (4, [.int 0, .long sd, .int nt, .ref ro, .ref pl, .ref vl, .int 17, .ref pa, .ref pr])), (pa, .inl (cL, 240, .inr (.inl g_33))), (pr, .inl (cL, 48, .inr (.inl p_32)))] H := hP
                      have hD : va_D A [(mx, .inr (4, [.int 0, .long sd, .int nt, .ref ro, .ref pl, .ref vl, .int 17, .ref pa, .ref pr])), (pa, .inl (cL, 240, .inr (.inl g_33))), (pr, .inl (cL, 48, .inr (.inl p_32)))] := hD
                      have hP : va_P (dC, dI) cl9 [(mx, .inr (4, [.int 0, .long sd, .int nt, .ref ro, .ref pl, .ref vl, .int (nI 17), .ref pa, .ref pr])), (pa, .inl (cL, 240, .inr (.inl g_33))), (pr, .inl (cL, 48, .inr (.inl p_32)))] H := hP
                      have hD : va_D A [(mx, .inr (4, [.int 0, .long sd, .int nt, .ref ro, .ref pl, .ref vl, .int (nI 17), .ref pa, .ref pr])), (pa, .inl (cL, 240, .inr (.inl g_33))), (pr, .inl (cL, 48, .inr (.inl p_32)))] := hD
                      refine lv_goto (tgt := 49) hx hb d_M_power_108 (by decide) ?_
                      refine lv_iload hx hb d_M_power_49 (lv_at hl 0 rfl) ?_
                      refine lv_if_eq (tgt := 111) hx hb d_M_power_51 (by decide) (fun ho3 => ?_) (fun ho3 => ?_)
                      · refine lv_lload_n hx hb d_M_power_111 rfl (lv_at hl 1 rfl) ?_
                        exact ct_lret hF d_M_power_112 (0, 17, g_33, p_32) ⟨(show (17 : Nat) ≤ 20 by decide), ((if_neg hc).trans (if_pos hd)).symm, ((if_neg hc).trans ((if_pos hd).trans ((if_neg hx0).trans ((if_neg (by rw [eP]; exact ho2)).trans (by rw [eP]; exact eV2))))).symm⟩ (hP.sub [0, 1, 2] rfl) (hD.sub [0, 1, 2] (by decide) rfl) hK hS
                      · exact absurd ho_35 ho3
        · refine lv_ldc2 (v := 1000000000) hx hb hown (ha _ wm_M_31) d_M_power_34 ?_
          exact ct_lret hF d_M_power_37 (0, f, g, p9) ⟨hf9, ((if_neg hc).trans (if_pos hd)).symm, ((if_neg hc).trans ((if_pos hd).trans (if_pos hx0))).symm⟩ (hP.sub [0, 1, 2] rfl) (hD.sub [0, 1, 2] (by decide) rfl) hK hS
      · exact absurd (by decide) hq
    · refine lv_iconst (v := 1) hx hb d_M_power_13 (by decide) ?_
      refine lv_goto (tgt := 18) hx hb d_M_power_14 (by decide) ?_
      refine va_put (D := (dC, dI)) (ci := 4) (v := .int 1) (ty := .int) (C := R_M) (T := F_M) (N := 9) hx hb ha ui_M ft_M tk_M nm_M hown hK hP hD hS 0 rfl rfl 0 (by decide) (ha _ wm_M_5) (fun _ h9 => h9) rfl (by decide +kernel) rfl rfl (Nat.le_of_ble_eq_true rfl) d_M_power_18 (fun H locs hP hD hS => ?_)
      have hP : va_P (dC, dI) cl9 [(mx, .inr (4, [.int 1, .long sd, .int nt, .ref ro, .ref pl, .ref vl, .int (nI f), .ref pa, .ref pr])), (pa, .inl (cL, 240, .inr (.inl g))), (pr, .inl (cL, 48, .inr (.inl p9)))] H := hP
      have hD : va_D A [(mx, .inr (4, [.int 1, .long sd, .int nt, .ref ro, .ref pl, .ref vl, .int (nI f), .ref pa, .ref pr])), (pa, .inl (cL, 240, .inr (.inl g))), (pr, .inl (cL, 48, .inr (.inl p9)))] := hD
      refine lv_aload_n hx hb d_M_power_21 rfl (lv_at hl 0 rfl) ?_
      refine va_get (D := (dC, dI)) (ci := 4) (v := .int 1) (C := R_M) (T := F_M) (N := 9) hx hb ha ui_M hown hK hP 0 rfl rfl 0 (by decide) (ha _ wm_M_5) (fun _ h9 => h9) rfl d_M_power_22 ?_
      refine lv_if_le (tgt := 30) hx hb d_M_power_25 (by decide) (fun hq => ?_) (fun hq => ?_)
      · exact absurd hq (by decide)
      · refine lv_lconst (v := 0) hx hb d_M_power_28 (by decide) ?_
        exact ct_lret hF d_M_power_29 (1, f, g, p9) ⟨hf9, ((if_neg hc).trans (if_neg hd)).symm, ((if_neg hc).trans (if_neg hd)).symm⟩ (hP.sub [0, 1, 2] rfl) (hD.sub [0, 1, 2] (by decide) rfl) hK hS
