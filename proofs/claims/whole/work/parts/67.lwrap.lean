set_option maxHeartbeats 1000000 in
set_option maxRecDepth 100000 in
/-- the law's power -/
theorem c_L_power (l : Launch) (hst : l.stackTraces = false) (dC : Nat → ClassId) (dI : Nat → Nat → Nat) (ot : Nat) (o : Nat → Int64) (fx : Nat) (sd : Int64) (tb tc : Nat) (ad : Nat → Nat) (cL : ClassId) (u : rk_U) (s1 s2 s3 s4 tl th ta : Nat) (x : Int32) (sz : Nat) : ct_I l y_L_power w_L_power { frames := 8, cells := 1, slots := 6, locals := 190 } (dC, dI) cl9 [(cL, .long)] (lg_G s1 s2 s3 s4 tl th ta) [.ref fx, .int x, .ref ot] ((ot, .inl (cL, 1, .inr (.inl o))) :: fw_w fx sd tb tc ad cL u) sz (S := (Nat → Int64) × rk_U) (fun r (w : (Nat → Int64) × rk_U) => (r = 0 ∧ (-20000000 ≤ x.toInt64 ∧ x.toInt64 ≤ 20000000) ∧ w.1 0 = fn_r 1000000000 (rk_raise x.toInt64 1000000 u)) ∨ (r = 1 ∧ (x.toInt64 < -20000000 ∨ 20000000 < x.toInt64))) (fun _ : (Nat → Int64) × rk_U => [(cL, .long)]) (fun w : (Nat → Int64) × rk_U => (ot, .inl (cL, 1, .inr (.inl w.1))) :: fw_w fx sd tb tc ad cL w.2) 1 6 := by
  refine ch_of (Qf := fun A => va_Qi (fun r (w : (Nat → Int64) × rk_U) => (r = 0 ∧ (-20000000 ≤ x.toInt64 ∧ x.toInt64 ≤ 20000000) ∧ w.1 0 = fn_r 1000000000 (rk_raise x.toInt64 1000000 u)) ∨ (r = 1 ∧ (x.toInt64 < -20000000 ∨ 20000000 < x.toInt64))) (ct_B (S := (Nat → Int64) × rk_U) (dC, dI) cl9 (fun _ : (Nat → Int64) × rk_U => [(cL, .long)]) A (fun w : (Nat → Int64) × rk_U => (ot, .inl (cL, 1, .inr (.inl w.1))) :: fw_w fx sd tb tc ad cL w.2)) A) (cc := b_L_power) (maxL := 4) (ret := some .int) (by decide) rfl (Nat.le_of_ble_eq_true rfl) ?_
  intro p e s m below meth c A ls hF ht hA hP hK hD hG hS hl
  obtain ⟨hx, hb, hr, hml, hts, hown, hlocks, hnm⟩ := id hF
  have hown : s.vm.findClass R_L = some m.cls := hown
  have ha : ∀ w ∈ al_L, w.before [.ref fx, .int x, .ref ot].toArray s = true := fun w h => hts w (List.mem_cons_of_mem _ h)
  have hl : lv_has ls 4 [(0, .ref fx), (1, .int x), (2, .ref ot)] := hl
  refine lv_aload_n hx hb d_L_power_0 rfl (lv_at hl 2 rfl) ?_
  refine lv_iconst (v := 0) hx hb d_L_power_1 (by decide) ?_
  refine lv_aload_n hx hb d_L_power_2 rfl (lv_at hl 0 rfl) ?_
  refine lv_iload_n hx hb d_L_power_3 rfl (lv_at hl 1 rfl) ?_
  refine cx_calll (vx_runV (As := [.int x]) (rest := [.int 0, .ref ot]) ⟨hx, hb, hml, hown, ha⟩ (c_F_power l hst dC dI fx sd tb tc ad cL u s1 s2 s3 s4 tl th ta x _) (cwV 1 ha g_L_F_power rfl rfl rfl (by decide +kernel) ⟨Nat.le_of_ble_eq_true rfl, Nat.le_of_ble_eq_true rfl⟩) (ct_preV (fg_Gok s1 s2 s3 s4 tl th ta) hG.1 hK hP hD hS hA [1, 2, 3, 4, 5, 6, 7, 8, 9, 10, 11, 12, 13, 14, 15, 16, 17] rfl (by decide) [0] rfl 1 3 rfl rfl rfl) rfl rfl hl.1 rfl (lv_room (Nat.le_of_ble_eq_true rfl)) d_L_power_4 ⟨Nat.le_of_ble_eq_true rfl, Nat.le_of_ble_eq_true rfl⟩) hP hD hS hA [1, 2, 3, 4, 5, 6, 7, 8, 9, 10, 11, 12, 13, 14, 15, 16, 17] rfl (by decide) (fun _ => rfl) (fun E ce q9 H locs hE hP hS hcell hv hcl => ?_) (fun r u9 H locs hw hP hD hS => ?_)
  · obtain ⟨rfl, hE⟩ := hE
    refine vx_catch (own := R_L) (name := "java/lang/IllegalArgumentException") hown [] ⟨0, 8, 11, 13⟩ [] ht (fun z hz => absurd hz List.not_mem_nil) (by decide) (by decide) (ha _ wm_L_9) (va_Nw.use rfl (hG.1.1.1.1 _ (by decide +kernel))) hcell hv hcl ?_
    refine lv_astore_n (lv' := [(3, .ref q9), (0, .ref fx), (1, .int x), (2, .ref ot)]) hx hb d_L_power_11 rfl hl (by decide) rfl (fun ls hl => ?_)
    refine lv_iconst (v := 1) hx hb d_L_power_12 (by decide) ?_
    exact ct_iret hF d_L_power_13 (o, u) (Or.inr ⟨rfl, hE⟩) hP hD hK hS
  · obtain ⟨hP, hD⟩ : va_P (dC, dI) cl9 ((ot, .inl (cL, 1, .inr (.inl o))) :: fw_w fx sd tb tc ad cL u9) H ∧ va_D A ((ot, .inl (cL, 1, .inr (.inl o))) :: fw_w fx sd tb tc ad cL u9) := ct_eqP (lwA (ot, .inl (cL, 1, .inr (.inl o))) fx sd tb tc ad cL u u9) hP hD
    refine ct_last hx hb hK hP hD hS 0 0 rfl rfl 0 rfl (by omega) (by omega) d_L_power_7 (fun H locs hP hD hS => ?_)
    have hP : va_P (dC, dI) cl9 ((ot, .inl (cL, 1, .inr (.inl (vp_updL o 0 r)))) :: fw_w fx sd tb tc ad cL u9) H := hP
    have hD : va_D A ((ot, .inl (cL, 1, .inr (.inl (vp_updL o 0 r)))) :: fw_w fx sd tb tc ad cL u9) := hD
    refine lv_goto (tgt := 14) hx hb d_L_power_8 (by decide) ?_
    refine lv_iconst (v := 0) hx hb d_L_power_14 (by decide) ?_
    have e0 : vp_updL o 0 r 0 = r := up_eq o 0 r
    exact ct_iret hF d_L_power_15 (vp_updL o 0 r, u9) (Or.inl ⟨rfl, by dsimp only; rw [e0]; exact hw⟩) hP hD hK hS
set_option maxHeartbeats 1000000 in
set_option maxRecDepth 100000 in
/-- the law's logarithm -/
theorem c_L_logarithm (l : Launch) (hst : l.stackTraces = false) (dC : Nat → ClassId) (dI : Nat → Nat → Nat) (ot : Nat) (o : Nat → Int64) (fx : Nat) (sd : Int64) (tb tc : Nat) (ad : Nat → Nat) (cL : ClassId) (u : rk_U) (s1 s2 s3 s4 tl th ta : Nat) (v : Int64) (sz : Nat) : ct_I l y_L_logarithm w_L_logarithm { frames := 8, cells := 1, slots := 6, locals := 190 } (dC, dI) cl9 [(cL, .long)] (lg_G s1 s2 s3 s4 tl th ta) [.ref fx, .long v, .ref ot] ((ot, .inl (cL, 1, .inr (.inl o))) :: fw_w fx sd tb tc ad cL u) sz (S := (Nat → Int64) × rk_U) (fun r (w : (Nat → Int64) × rk_U) => (r = 0 ∧ ((v ≤ 0 ∧ w.1 0 = -9223372036854775808 ∧ w.2 = u) ∨ ((0 < v ∧ v ≤ 1000000000000) ∧ w.1 0 = fn_r 1000000000 (rk_log v 1000000 u)))) ∨ (r = 1 ∧ 0 < v ∧ 1000000000000 < v)) (fun _ : (Nat → Int64) × rk_U => [(cL, .long)]) (fun w : (Nat → Int64) × rk_U => (ot, .inl (cL, 1, .inr (.inl w.1))) :: fw_w fx sd tb tc ad cL w.2) 1 6 := by
  refine ch_of (Qf := fun A => va_Qi (fun r (w : (Nat → Int64) × rk_U) => (r = 0 ∧ ((v ≤ 0 ∧ w.1 0 = -9223372036854775808 ∧ w.2 = u) ∨ ((0 < v ∧ v ≤ 1000000000000) ∧ w.1 0 = fn_r 1000000000 (rk_log v 1000000 u)))) ∨ (r = 1 ∧ 0 < v ∧ 1000000000000 < v)) (ct_B (S := (Nat → Int64) × rk_U) (dC, dI) cl9 (fun _ : (Nat → Int64) × rk_U => [(cL, .long)]) A (fun w : (Nat → Int64) × rk_U => (ot, .inl (cL, 1, .inr (.inl w.1))) :: fw_w fx sd tb tc ad cL w.2)) A) (cc := b_L_logarithm) (maxL := 5) (ret := some .int) (by decide) rfl (Nat.le_of_ble_eq_true rfl) ?_
  intro p e s m below meth c A ls hF ht hA hP hK hD hG hS hl
  obtain ⟨hx, hb, hr, hml, hts, hown, hlocks, hnm⟩ := id hF
  have hown : s.vm.findClass R_L = some m.cls := hown
  have ha : ∀ w ∈ al_L, w.before [.ref fx, .long v, .ref ot].toArray s = true := fun w h => hts w (List.mem_cons_of_mem _ h)
  have hl : lv_has ls 5 [(0, .ref fx), (1, .long v), (3, .ref ot)] := hl
  refine lv_aload_n hx hb d_L_logarithm_0 rfl (lv_at hl 2 rfl) ?_
  refine lv_iconst (v := 0) hx hb d_L_logarithm_1 (by decide) ?_
  refine lv_aload_n hx hb d_L_logarithm_2 rfl (lv_at hl 0 rfl) ?_
  refine lv_lload_n hx hb d_L_logarithm_3 rfl (lv_at hl 1 rfl) ?_
  refine cx_calll (vx_runV (As := [.long v]) (rest := [.int 0, .ref ot]) ⟨hx, hb, hml, hown, ha⟩ (c_F_logarithm l hst dC dI fx sd tb tc ad cL u s1 s2 s3 s4 tl th ta v _) (cwV 1 ha g_L_F_logarithm rfl rfl rfl (by decide +kernel) ⟨Nat.le_of_ble_eq_true rfl, Nat.le_of_ble_eq_true rfl⟩) (ct_preV (fg_Gok s1 s2 s3 s4 tl th ta) hG.1 hK hP hD hS hA [1, 2, 3, 4, 5, 6, 7, 8, 9, 10, 11, 12, 13, 14, 15, 16, 17] rfl (by decide) [0] rfl 1 3 rfl rfl rfl) rfl rfl hl.1 rfl (lv_room (Nat.le_of_ble_eq_true rfl)) d_L_logarithm_4 ⟨Nat.le_of_ble_eq_true rfl, Nat.le_of_ble_eq_true rfl⟩) hP hD hS hA [1, 2, 3, 4, 5, 6, 7, 8, 9, 10, 11, 12, 13, 14, 15, 16, 17] rfl (by decide) (fun _ => rfl) (fun E ce q9 H locs hE hP hS hcell hv hcl => ?_) (fun r u9 H locs hw hP hD hS => ?_)
  · obtain ⟨rfl, hE⟩ := hE
    refine vx_catch (own := R_L) (name := "java/lang/IllegalArgumentException") hown [] ⟨0, 8, 11, 13⟩ [] ht (fun z hz => absurd hz List.not_mem_nil) (by decide) (by decide) (ha _ wm_L_9) (va_Nw.use rfl (hG.1.1.1.1 _ (by decide +kernel))) hcell hv hcl ?_
    refine lv_astore (lv' := [(4, .ref q9), (0, .ref fx), (1, .long v), (3, .ref ot)]) hx hb d_L_logarithm_11 hl (by decide) rfl (fun ls hl => ?_)
    refine lv_iconst (v := 1) hx hb d_L_logarithm_13 (by decide) ?_
    exact ct_iret hF d_L_logarithm_14 (o, u) (Or.inr ⟨rfl, hE⟩) hP hD hK hS
  · obtain ⟨hP, hD⟩ : va_P (dC, dI) cl9 ((ot, .inl (cL, 1, .inr (.inl o))) :: fw_w fx sd tb tc ad cL u9) H ∧ va_D A ((ot, .inl (cL, 1, .inr (.inl o))) :: fw_w fx sd tb tc ad cL u9) := ct_eqP (lwA (ot, .inl (cL, 1, .inr (.inl o))) fx sd tb tc ad cL u u9) hP hD
    refine ct_last hx hb hK hP hD hS 0 0 rfl rfl 0 rfl (by omega) (by omega) d_L_logarithm_7 (fun H locs hP hD hS => ?_)
    have hP : va_P (dC, dI) cl9 ((ot, .inl (cL, 1, .inr (.inl (vp_updL o 0 r)))) :: fw_w fx sd tb tc ad cL u9) H := hP
    have hD : va_D A ((ot, .inl (cL, 1, .inr (.inl (vp_updL o 0 r)))) :: fw_w fx sd tb tc ad cL u9) := hD
    refine lv_goto (tgt := 15) hx hb d_L_logarithm_8 (by decide) ?_
    refine lv_iconst (v := 0) hx hb d_L_logarithm_15 (by decide) ?_
    have e0 : vp_updL o 0 r 0 = r := up_eq o 0 r
    exact ct_iret hF d_L_logarithm_16 (vp_updL o 0 r, u9) (Or.inl ⟨rfl, by dsimp only; rw [e0]; exact hw⟩) hP hD hK hS
set_option maxHeartbeats 1000000 in
set_option maxRecDepth 100000 in
/-- the law's sine -/
theorem c_L_sine (l : Launch) (hst : l.stackTraces = false) (dC : Nat → ClassId) (dI : Nat → Nat → Nat) (ot : Nat) (o : Nat → Int64) (fx : Nat) (sd : Int64) (tb tc : Nat) (ad : Nat → Nat) (cL : ClassId) (u : rk_U) (s1 s2 s3 s4 tl th ta : Nat) (x : Int32) (sz : Nat) : ct_I l y_L_sine w_L_sine { frames := 8, cells := 1, slots := 6, locals := 190 } (dC, dI) cl9 [(cL, .long)] (lg_G s1 s2 s3 s4 tl th ta) [.ref fx, .int x, .ref ot] ((ot, .inl (cL, 1, .inr (.inl o))) :: fw_w fx sd tb tc ad cL u) sz (S := (Nat → Int64) × rk_U) (fun r (w : (Nat → Int64) × rk_U) => (r = 0 ∧ (-100000000 ≤ x.toInt64 ∧ x.toInt64 ≤ 100000000) ∧ w.1 0 = fn_r 1000000000 (rk_swing (pu_abl x.toInt64) (if 0 ≤ x then 0 else 2) u)) ∨ (r = 1 ∧ (x.toInt64 < -100000000 ∨ 100000000 < x.toInt64))) (fun _ : (Nat → Int64) × rk_U => [(cL, .long)]) (fun w : (Nat → Int64) × rk_U => (ot, .inl (cL, 1, .inr (.inl w.1))) :: fw_w fx sd tb tc ad cL w.2) 1 6 := by
  refine ch_of (Qf := fun A => va_Qi (fun r (w : (Nat → Int64) × rk_U) => (r = 0 ∧ (-100000000 ≤ x.toInt64 ∧ x.toInt64 ≤ 100000000) ∧ w.1 0 = fn_r 1000000000 (rk_swing (pu_abl x.toInt64) (if 0 ≤ x then 0 else 2) u)) ∨ (r = 1 ∧ (x.toInt64 < -100000000 ∨ 100000000 < x.toInt64))) (ct_B (S := (Nat → Int64) × rk_U) (dC, dI) cl9 (fun _ : (Nat → Int64) × rk_U => [(cL, .long)]) A (fun w : (Nat → Int64) × rk_U => (ot, .inl (cL, 1, .inr (.inl w.1))) :: fw_w fx sd tb tc ad cL w.2)) A) (cc := b_L_sine) (maxL := 4) (ret := some .int) (by decide) rfl (Nat.le_of_ble_eq_true rfl) ?_
  intro p e s m below meth c A ls hF ht hA hP hK hD hG hS hl
  obtain ⟨hx, hb, hr, hml, hts, hown, hlocks, hnm⟩ := id hF
  have hown : s.vm.findClass R_L = some m.cls := hown
  have ha : ∀ w ∈ al_L, w.before [.ref fx, .int x, .ref ot].toArray s = true := fun w h => hts w (List.mem_cons_of_mem _ h)
  have hl : lv_has ls 4 [(0, .ref fx), (1, .int x), (2, .ref ot)] := hl
  refine lv_aload_n hx hb d_L_sine_0 rfl (lv_at hl 2 rfl) ?_
  refine lv_iconst (v := 0) hx hb d_L_sine_1 (by decide) ?_
  refine lv_aload_n hx hb d_L_sine_2 rfl (lv_at hl 0 rfl) ?_
  refine lv_iload_n hx hb d_L_sine_3 rfl (lv_at hl 1 rfl) ?_
  refine cx_calll (vx_runV (As := [.int x]) (rest := [.int 0, .ref ot]) ⟨hx, hb, hml, hown, ha⟩ (c_F_sine l hst dC dI fx sd tb tc ad cL u s1 s2 s3 s4 tl th ta x _) (cwV 1 ha g_L_F_sine rfl rfl rfl (by decide +kernel) ⟨Nat.le_of_ble_eq_true rfl, Nat.le_of_ble_eq_true rfl⟩) (ct_preV (fg_Gok s1 s2 s3 s4 tl th ta) hG.1 hK hP hD hS hA [1, 2, 3, 4, 5, 6, 7, 8, 9, 10, 11, 12, 13, 14, 15, 16, 17] rfl (by decide) [0] rfl 1 3 rfl rfl rfl) rfl rfl hl.1 rfl (lv_room (Nat.le_of_ble_eq_true rfl)) d_L_sine_4 ⟨Nat.le_of_ble_eq_true rfl, Nat.le_of_ble_eq_true rfl⟩) hP hD hS hA [1, 2, 3, 4, 5, 6, 7, 8, 9, 10, 11, 12, 13, 14, 15, 16, 17] rfl (by decide) (fun _ => rfl) (fun E ce q9 H locs hE hP hS hcell hv hcl => ?_) (fun r u9 H locs hw hP hD hS => ?_)
  · obtain ⟨rfl, hE⟩ := hE
    refine vx_catch (own := R_L) (name := "java/lang/IllegalArgumentException") hown [] ⟨0, 8, 11, 13⟩ [] ht (fun z hz => absurd hz List.not_mem_nil) (by decide) (by decide) (ha _ wm_L_9) (va_Nw.use rfl (hG.1.1.1.1 _ (by decide +kernel))) hcell hv hcl ?_
    refine lv_astore_n (lv' := [(3, .ref q9), (0, .ref fx), (1, .int x), (2, .ref ot)]) hx hb d_L_sine_11 rfl hl (by decide) rfl (fun ls hl => ?_)
    refine lv_iconst (v := 1) hx hb d_L_sine_12 (by decide) ?_
    exact ct_iret hF d_L_sine_13 (o, u) (Or.inr ⟨rfl, hE⟩) hP hD hK hS
  · obtain ⟨hP, hD⟩ : va_P (dC, dI) cl9 ((ot, .inl (cL, 1, .inr (.inl o))) :: fw_w fx sd tb tc ad cL u9) H ∧ va_D A ((ot, .inl (cL, 1, .inr (.inl o))) :: fw_w fx sd tb tc ad cL u9) := ct_eqP (lwA (ot, .inl (cL, 1, .inr (.inl o))) fx sd tb tc ad cL u u9) hP hD
    refine ct_last hx hb hK hP hD hS 0 0 rfl rfl 0 rfl (by omega) (by omega) d_L_sine_7 (fun H locs hP hD hS => ?_)
    have hP : va_P (dC, dI) cl9 ((ot, .inl (cL, 1, .inr (.inl (vp_updL o 0 r)))) :: fw_w fx sd tb tc ad cL u9) H := hP
    have hD : va_D A ((ot, .inl (cL, 1, .inr (.inl (vp_updL o 0 r)))) :: fw_w fx sd tb tc ad cL u9) := hD
    refine lv_goto (tgt := 14) hx hb d_L_sine_8 (by decide) ?_
    refine lv_iconst (v := 0) hx hb d_L_sine_14 (by decide) ?_
    have e0 : vp_updL o 0 r 0 = r := up_eq o 0 r
    exact ct_iret hF d_L_sine_15 (vp_updL o 0 r, u9) (Or.inl ⟨rfl, by dsimp only; rw [e0]; exact hw⟩) hP hD hK hS
set_option maxHeartbeats 1000000 in
set_option maxRecDepth 100000 in
/-- the law's cosine -/
theorem c_L_cosine (l : Launch) (hst : l.stackTraces = false) (dC : Nat → ClassId) (dI : Nat → Nat → Nat) (ot : Nat) (o : Nat → Int64) (fx : Nat) (sd : Int64) (tb tc : Nat) (ad : Nat → Nat) (cL : ClassId) (u : rk_U) (s1 s2 s3 s4 tl th ta : Nat) (x : Int32) (sz : Nat) : ct_I l y_L_cosine w_L_cosine { frames := 8, cells := 1, slots := 6, locals := 190 } (dC, dI) cl9 [(cL, .long)] (lg_G s1 s2 s3 s4 tl th ta) [.ref fx, .int x, .ref ot] ((ot, .inl (cL, 1, .inr (.inl o))) :: fw_w fx sd tb tc ad cL u) sz (S := (Nat → Int64) × rk_U) (fun r (w : (Nat → Int64) × rk_U) => (r = 0 ∧ (-100000000 ≤ x.toInt64 ∧ x.toInt64 ≤ 100000000) ∧ w.1 0 = fn_r 1000000000 (rk_swing (pu_abl x.toInt64) 1 u)) ∨ (r = 1 ∧ (x.toInt64 < -100000000 ∨ 100000000 < x.toInt64))) (fun _ : (Nat → Int64) × rk_U => [(cL, .long)]) (fun w : (Nat → Int64) × rk_U => (ot, .inl (cL, 1, .inr (.inl w.1))) :: fw_w fx sd tb tc ad cL w.2) 1 6 := by
  refine ch_of (Qf := fun A => va_Qi (fun r (w : (Nat → Int64) × rk_U) => (r = 0 ∧ (-100000000 ≤ x.toInt64 ∧ x.toInt64 ≤ 100000000) ∧ w.1 0 = fn_r 1000000000 (rk_swing (pu_abl x.toInt64) 1 u)) ∨ (r = 1 ∧ (x.toInt64 < -100000000 ∨ 100000000 < x.toInt64))) (ct_B (S := (Nat → Int64) × rk_U) (dC, dI) cl9 (fun _ : (Nat → Int64) × rk_U => [(cL, .long)]) A (fun w : (Nat → Int64) × rk_U => (ot, .inl (cL, 1, .inr (.inl w.1))) :: fw_w fx sd tb tc ad cL w.2)) A) (cc := b_L_cosine) (maxL := 4) (ret := some .int) (by decide) rfl (Nat.le_of_ble_eq_true rfl) ?_
  intro p e s m below meth c A ls hF ht hA hP hK hD hG hS hl
  obtain ⟨hx, hb, hr, hml, hts, hown, hlocks, hnm⟩ := id hF
  have hown : s.vm.findClass R_L = some m.cls := hown
  have ha : ∀ w ∈ al_L, w.before [.ref fx, .int x, .ref ot].toArray s = true := fun w h => hts w (List.mem_cons_of_mem _ h)
  have hl : lv_has ls 4 [(0, .ref fx), (1, .int x), (2, .ref ot)] := hl
  refine lv_aload_n hx hb d_L_cosine_0 rfl (lv_at hl 2 rfl) ?_
  refine lv_iconst (v := 0) hx hb d_L_cosine_1 (by decide) ?_
  refine lv_aload_n hx hb d_L_cosine_2 rfl (lv_at hl 0 rfl) ?_
  refine lv_iload_n hx hb d_L_cosine_3 rfl (lv_at hl 1 rfl) ?_
  refine cx_calll (vx_runV (As := [.int x]) (rest := [.int 0, .ref ot]) ⟨hx, hb, hml, hown, ha⟩ (c_F_cosine l hst dC dI fx sd tb tc ad cL u s1 s2 s3 s4 tl th ta x _) (cwV 1 ha g_L_F_cosine rfl rfl rfl (by decide +kernel) ⟨Nat.le_of_ble_eq_true rfl, Nat.le_of_ble_eq_true rfl⟩) (ct_preV (fg_Gok s1 s2 s3 s4 tl th ta) hG.1 hK hP hD hS hA [1, 2, 3, 4, 5, 6, 7, 8, 9, 10, 11, 12, 13, 14, 15, 16, 17] rfl (by decide) [0] rfl 1 3 rfl rfl rfl) rfl rfl hl.1 rfl (lv_room (Nat.le_of_ble_eq_true rfl)) d_L_cosine_4 ⟨Nat.le_of_ble_eq_true rfl, Nat.le_of_ble_eq_true rfl⟩) hP hD hS hA [1, 2, 3, 4, 5, 6, 7, 8, 9, 10, 11, 12, 13, 14, 15, 16, 17] rfl (by decide) (fun _ => rfl) (fun E ce q9 H locs hE hP hS hcell hv hcl => ?_) (fun r u9 H locs hw hP hD hS => ?_)
  · obtain ⟨rfl, hE⟩ := hE
    refine vx_catch (own := R_L) (name := "java/lang/IllegalArgumentException") hown [] ⟨0, 8, 11, 13⟩ [] ht (fun z hz => absurd hz List.not_mem_nil) (by decide) (by decide) (ha _ wm_L_9) (va_Nw.use rfl (hG.1.1.1.1 _ (by decide +kernel))) hcell hv hcl ?_
    refine lv_astore_n (lv' := [(3, .ref q9), (0, .ref fx), (1, .int x), (2, .ref ot)]) hx hb d_L_cosine_11 rfl hl (by decide) rfl (fun ls hl => ?_)
    refine lv_iconst (v := 1) hx hb d_L_cosine_12 (by decide) ?_
    exact ct_iret hF d_L_cosine_13 (o, u) (Or.inr ⟨rfl, hE⟩) hP hD hK hS
  · obtain ⟨hP, hD⟩ : va_P (dC, dI) cl9 ((ot, .inl (cL, 1, .inr (.inl o))) :: fw_w fx sd tb tc ad cL u9) H ∧ va_D A ((ot, .inl (cL, 1, .inr (.inl o))) :: fw_w fx sd tb tc ad cL u9) := ct_eqP (lwA (ot, .inl (cL, 1, .inr (.inl o))) fx sd tb tc ad cL u u9) hP hD
    refine ct_last hx hb hK hP hD hS 0 0 rfl rfl 0 rfl (by omega) (by omega) d_L_cosine_7 (fun H locs hP hD hS => ?_)
    have hP : va_P (dC, dI) cl9 ((ot, .inl (cL, 1, .inr (.inl (vp_updL o 0 r)))) :: fw_w fx sd tb tc ad cL u9) H := hP
    have hD : va_D A ((ot, .inl (cL, 1, .inr (.inl (vp_updL o 0 r)))) :: fw_w fx sd tb tc ad cL u9) := hD
    refine lv_goto (tgt := 14) hx hb d_L_cosine_8 (by decide) ?_
    refine lv_iconst (v := 0) hx hb d_L_cosine_14 (by decide) ?_
    have e0 : vp_updL o 0 r 0 = r := up_eq o 0 r
    exact ct_iret hF d_L_cosine_15 (vp_updL o 0 r, u9) (Or.inl ⟨rfl, by dsimp only; rw [e0]; exact hw⟩) hP hD hK hS
set_option maxHeartbeats 1000000 in
set_option maxRecDepth 100000 in
/-- the law's angle -/
theorem c_L_angle (l : Launch) (hst : l.stackTraces = false) (dC : Nat → ClassId) (dI : Nat → Nat → Nat) (ot : Nat) (o : Nat → Int64) (fx : Nat) (sd : Int64) (tb tc : Nat) (ad : Nat → Nat) (cL : ClassId) (u : rk_U) (s1 s2 s3 s4 tl th ta : Nat) (y : Int32) (x : Int32) (sz : Nat) : ct_I l y_L_angle w_L_angle { frames := 8, cells := 2, slots := 12, locals := 190 } (dC, dI) cl9 [(cL, .long)] (lg_G s1 s2 s3 s4 tl th ta) [.ref fx, .int y, .int x, .ref ot] ((ot, .inl (cL, 1, .inr (.inl o))) :: fw_w fx sd tb tc ad cL u) sz (S := (Nat → Int64) × rk_U) (fun r (w : (Nat → Int64) × rk_U) => (r = 0 ∧ ((-1000000 ≤ y.toInt64 ∧ y.toInt64 ≤ 1000000) ∧ (-1000000 ≤ x.toInt64 ∧ x.toInt64 ≤ 1000000)) ∧ ((x = 0 ∧ y = 0 ∧ w.1 0 = -9223372036854775808 ∧ w.2 = u) ∨ (¬ (x = 0 ∧ y = 0) ∧ w.1 0 = fn_r 1000000000 (rk_point y x u)))) ∨ (r = 1 ∧ ((y.toInt64 < -1000000 ∨ 1000000 < y.toInt64) ∨ (x.toInt64 < -1000000 ∨ 1000000 < x.toInt64)))) (fun _ : (Nat → Int64) × rk_U => [(cL, .long)]) (fun w : (Nat → Int64) × rk_U => (ot, .inl (cL, 1, .inr (.inl w.1))) :: fw_w fx sd tb tc ad cL w.2) 2 12 := by
  refine ch_of (Qf := fun A => va_Qi (fun r (w : (Nat → Int64) × rk_U) => (r = 0 ∧ ((-1000000 ≤ y.toInt64 ∧ y.toInt64 ≤ 1000000) ∧ (-1000000 ≤ x.toInt64 ∧ x.toInt64 ≤ 1000000)) ∧ ((x = 0 ∧ y = 0 ∧ w.1 0 = -9223372036854775808 ∧ w.2 = u) ∨ (¬ (x = 0 ∧ y = 0) ∧ w.1 0 = fn_r 1000000000 (rk_point y x u)))) ∨ (r = 1 ∧ ((y.toInt64 < -1000000 ∨ 1000000 < y.toInt64) ∨ (x.toInt64 < -1000000 ∨ 1000000 < x.toInt64)))) (ct_B (S := (Nat → Int64) × rk_U) (dC, dI) cl9 (fun _ : (Nat → Int64) × rk_U => [(cL, .long)]) A (fun w : (Nat → Int64) × rk_U => (ot, .inl (cL, 1, .inr (.inl w.1))) :: fw_w fx sd tb tc ad cL w.2)) A) (cc := b_L_angle) (maxL := 5) (ret := some .int) (by decide) rfl (Nat.le_of_ble_eq_true rfl) ?_
  intro p e s m below meth c A ls hF ht hA hP hK hD hG hS hl
  obtain ⟨hx, hb, hr, hml, hts, hown, hlocks, hnm⟩ := id hF
  have hown : s.vm.findClass R_L = some m.cls := hown
  have ha : ∀ w ∈ al_L, w.before [.ref fx, .int y, .int x, .ref ot].toArray s = true := fun w h => hts w (List.mem_cons_of_mem _ h)
  have hl : lv_has ls 5 [(0, .ref fx), (1, .int y), (2, .int x), (3, .ref ot)] := hl
  refine lv_aload_n hx hb d_L_angle_0 rfl (lv_at hl 3 rfl) ?_
  refine lv_iconst (v := 0) hx hb d_L_angle_1 (by decide) ?_
  refine lv_aload_n hx hb d_L_angle_2 rfl (lv_at hl 0 rfl) ?_
  refine lv_iload_n hx hb d_L_angle_3 rfl (lv_at hl 1 rfl) ?_
  refine lv_iload_n hx hb d_L_angle_4 rfl (lv_at hl 2 rfl) ?_
  refine cx_calll (vx_runV (As := [.int y, .int x]) (rest := [.int 0, .ref ot]) ⟨hx, hb, hml, hown, ha⟩ (c_F_angle l hst dC dI fx sd tb tc ad cL u s1 s2 s3 s4 tl th ta y x _) (cwV 2 ha g_L_F_angle rfl rfl rfl (by decide +kernel) ⟨Nat.le_of_ble_eq_true rfl, Nat.le_of_ble_eq_true rfl⟩) (ct_preV (fg_Gok s1 s2 s3 s4 tl th ta) hG.1 hK hP hD hS hA [1, 2, 3, 4, 5, 6, 7, 8, 9, 10, 11, 12, 13, 14, 15, 16, 17] rfl (by decide) [0] rfl 1 3 rfl rfl rfl) rfl rfl hl.1 rfl (lv_room (Nat.le_of_ble_eq_true rfl)) d_L_angle_5 ⟨Nat.le_of_ble_eq_true rfl, Nat.le_of_ble_eq_true rfl⟩) hP hD hS hA [1, 2, 3, 4, 5, 6, 7, 8, 9, 10, 11, 12, 13, 14, 15, 16, 17] rfl (by decide) (fun _ => rfl) (fun E ce q9 H locs hE hP hS hcell hv hcl => ?_) (fun r u9 H locs hw hP hD hS => ?_)
  · obtain ⟨rfl, hE⟩ := hE
    refine vx_catch (own := R_L) (name := "java/lang/IllegalArgumentException") hown [] ⟨0, 9, 12, 13⟩ [] ht (fun z hz => absurd hz List.not_mem_nil) (by decide) (by decide) (ha _ wm_L_9) (va_Nw.use rfl (hG.1.1.1.1 _ (by decide +kernel))) hcell hv hcl ?_
    refine lv_astore (lv' := [(4, .ref q9), (0, .ref fx), (1, .int y), (2, .int x), (3, .ref ot)]) hx hb d_L_angle_12 hl (by decide) rfl (fun ls hl => ?_)
    refine lv_iconst (v := 1) hx hb d_L_angle_14 (by decide) ?_
    exact ct_iret hF d_L_angle_15 (o, u) (Or.inr ⟨rfl, hE⟩) hP hD hK hS
  · obtain ⟨hP, hD⟩ : va_P (dC, dI) cl9 ((ot, .inl (cL, 1, .inr (.inl o))) :: fw_w fx sd tb tc ad cL u9) H ∧ va_D A ((ot, .inl (cL, 1, .inr (.inl o))) :: fw_w fx sd tb tc ad cL u9) := ct_eqP (lwA (ot, .inl (cL, 1, .inr (.inl o))) fx sd tb tc ad cL u u9) hP hD
    refine ct_last hx hb hK hP hD hS 0 0 rfl rfl 0 rfl (by omega) (by omega) d_L_angle_8 (fun H locs hP hD hS => ?_)
    have hP : va_P (dC, dI) cl9 ((ot, .inl (cL, 1, .inr (.inl (vp_updL o 0 r)))) :: fw_w fx sd tb tc ad cL u9) H := hP
    have hD : va_D A ((ot, .inl (cL, 1, .inr (.inl (vp_updL o 0 r)))) :: fw_w fx sd tb tc ad cL u9) := hD
    refine lv_goto (tgt := 16) hx hb d_L_angle_9 (by decide) ?_
    refine lv_iconst (v := 0) hx hb d_L_angle_16 (by decide) ?_
    have e0 : vp_updL o 0 r 0 = r := up_eq o 0 r
    exact ct_iret hF d_L_angle_17 (vp_updL o 0 r, u9) (Or.inl ⟨rfl, by dsimp only; rw [e0]; exact hw⟩) hP hD hK hS
set_option maxHeartbeats 1000000 in
set_option maxRecDepth 100000 in
/-- the law's root -/
theorem c_L_root (l : Launch) (hst : l.stackTraces = false) (dC : Nat → ClassId) (dI : Nat → Nat → Nat) (ot : Nat) (o : Nat → Int64) (fx : Nat) (sd : Int64) (tb tc : Nat) (ad : Nat → Nat) (cL : ClassId) (u : rk_U) (s1 s2 s3 s4 tl th ta : Nat) (v : Int64) (k : Int32) (sz : Nat) : ct_I l y_L_root w_L_root { frames := 8, cells := 2, slots := 12, locals := 190 } (dC, dI) cl9 [(cL, .long)] (lg_G s1 s2 s3 s4 tl th ta) [.ref fx, .long v, .int k, .ref ot] ((ot, .inl (cL, 1, .inr (.inl o))) :: fw_w fx sd tb tc ad cL u) sz (S := (Nat → Int64) × rk_U) (fun r (w : (Nat → Int64) × rk_U) => (r = 0 ∧ ((0 ≤ v ∧ v ≤ 1000000000000) ∧ (2 ≤ k.toInt64 ∧ k.toInt64 ≤ 5)) ∧ ∃ kn : Nat, (2 ≤ kn ∧ kn ≤ 5) ∧ k = nI kn ∧ w.1 0 = (rk_root v kn u).1) ∨ (r = 1 ∧ ((v < 0 ∨ 1000000000000 < v) ∨ (k.toInt64 < 2 ∨ 5 < k.toInt64)))) (fun _ : (Nat → Int64) × rk_U => [(cL, .long)]) (fun w : (Nat → Int64) × rk_U => (ot, .inl (cL, 1, .inr (.inl w.1))) :: fw_w fx sd tb tc ad cL w.2) 2 12 := by
  refine ch_of (Qf := fun A => va_Qi (fun r (w : (Nat → Int64) × rk_U) => (r = 0 ∧ ((0 ≤ v ∧ v ≤ 1000000000000) ∧ (2 ≤ k.toInt64 ∧ k.toInt64 ≤ 5)) ∧ ∃ kn : Nat, (2 ≤ kn ∧ kn ≤ 5) ∧ k = nI kn ∧ w.1 0 = (rk_root v kn u).1) ∨ (r = 1 ∧ ((v < 0 ∨ 1000000000000 < v) ∨ (k.toInt64 < 2 ∨ 5 < k.toInt64)))) (ct_B (S := (Nat → Int64) × rk_U) (dC, dI) cl9 (fun _ : (Nat → Int64) × rk_U => [(cL, .long)]) A (fun w : (Nat → Int64) × rk_U => (ot, .inl (cL, 1, .inr (.inl w.1))) :: fw_w fx sd tb tc ad cL w.2)) A) (cc := b_L_root) (maxL := 6) (ret := some .int) (by decide) rfl (Nat.le_of_ble_eq_true rfl) ?_
  intro p e s m below meth c A ls hF ht hA hP hK hD hG hS hl
  obtain ⟨hx, hb, hr, hml, hts, hown, hlocks, hnm⟩ := id hF
  have hown : s.vm.findClass R_L = some m.cls := hown
  have ha : ∀ w ∈ al_L, w.before [.ref fx, .long v, .int k, .ref ot].toArray s = true := fun w h => hts w (List.mem_cons_of_mem _ h)
  have hl : lv_has ls 6 [(0, .ref fx), (1, .long v), (3, .int k), (4, .ref ot)] := hl
  refine lv_aload hx hb d_L_root_0 (lv_at hl 3 rfl) ?_
  refine lv_iconst (v := 0) hx hb d_L_root_2 (by decide) ?_
  refine lv_aload_n hx hb d_L_root_3 rfl (lv_at hl 0 rfl) ?_
  refine lv_lload_n hx hb d_L_root_4 rfl (lv_at hl 1 rfl) ?_
  refine lv_iload_n hx hb d_L_root_5 rfl (lv_at hl 2 rfl) ?_
  refine cx_calll (vx_runV (As := [.long v, .int k]) (rest := [.int 0, .ref ot]) ⟨hx, hb, hml, hown, ha⟩ (c_F_root l hst dC dI fx sd tb tc ad cL u s1 s2 s3 s4 tl th ta v k _) (cwV 2 ha g_L_F_root rfl rfl rfl (by decide +kernel) ⟨Nat.le_of_ble_eq_true rfl, Nat.le_of_ble_eq_true rfl⟩) (ct_preV (fg_Gok s1 s2 s3 s4 tl th ta) hG.1 hK hP hD hS hA [1, 2, 3, 4, 5, 6, 7, 8, 9, 10, 11, 12, 13, 14, 15, 16, 17] rfl (by decide) [0] rfl 1 3 rfl rfl rfl) rfl rfl hl.1 rfl (lv_room (Nat.le_of_ble_eq_true rfl)) d_L_root_6 ⟨Nat.le_of_ble_eq_true rfl, Nat.le_of_ble_eq_true rfl⟩) hP hD hS hA [1, 2, 3, 4, 5, 6, 7, 8, 9, 10, 11, 12, 13, 14, 15, 16, 17] rfl (by decide) (fun _ => rfl) (fun E ce q9 H locs hE hP hS hcell hv hcl => ?_) (fun r u9 H locs hw hP hD hS => ?_)
  · obtain ⟨rfl, hE⟩ := hE
    refine vx_catch (own := R_L) (name := "java/lang/IllegalArgumentException") hown [] ⟨0, 10, 13, 13⟩ [] ht (fun z hz => absurd hz List.not_mem_nil) (by decide) (by decide) (ha _ wm_L_9) (va_Nw.use rfl (hG.1.1.1.1 _ (by decide +kernel))) hcell hv hcl ?_
    refine lv_astore (lv' := [(5, .ref q9), (0, .ref fx), (1, .long v), (3, .int k), (4, .ref ot)]) hx hb d_L_root_13 hl (by decide) rfl (fun ls hl => ?_)
    refine lv_iconst (v := 1) hx hb d_L_root_15 (by decide) ?_
    exact ct_iret hF d_L_root_16 (o, u) (Or.inr ⟨rfl, hE⟩) hP hD hK hS
  · obtain ⟨hP, hD⟩ : va_P (dC, dI) cl9 ((ot, .inl (cL, 1, .inr (.inl o))) :: fw_w fx sd tb tc ad cL u9) H ∧ va_D A ((ot, .inl (cL, 1, .inr (.inl o))) :: fw_w fx sd tb tc ad cL u9) := ct_eqP (lwA (ot, .inl (cL, 1, .inr (.inl o))) fx sd tb tc ad cL u u9) hP hD
    refine ct_last hx hb hK hP hD hS 0 0 rfl rfl 0 rfl (by omega) (by omega) d_L_root_9 (fun H locs hP hD hS => ?_)
    have hP : va_P (dC, dI) cl9 ((ot, .inl (cL, 1, .inr (.inl (vp_updL o 0 r)))) :: fw_w fx sd tb tc ad cL u9) H := hP
    have hD : va_D A ((ot, .inl (cL, 1, .inr (.inl (vp_updL o 0 r)))) :: fw_w fx sd tb tc ad cL u9) := hD
    refine lv_goto (tgt := 17) hx hb d_L_root_10 (by decide) ?_
    refine lv_iconst (v := 0) hx hb d_L_root_17 (by decide) ?_
    have e0 : vp_updL o 0 r 0 = r := up_eq o 0 r
    exact ct_iret hF d_L_root_18 (vp_updL o 0 r, u9) (Or.inl ⟨rfl, by dsimp only; rw [e0]; exact hw⟩) hP hD hK hS
set_option maxHeartbeats 1000000 in
set_option maxRecDepth 100000 in
/-- the law's damp -/
theorem c_L_damp (l : Launch) (hst : l.stackTraces = false) (dC : Nat → ClassId) (dI : Nat → Nat → Nat) (ot : Nat) (o : Nat → Int64) (fx : Nat) (sd : Int64) (tb tc : Nat) (ad : Nat → Nat) (cL : ClassId) (u : rk_U) (s1 s2 s3 s4 tl th ta : Nat) (t : Int32) (h : Int32) (sz : Nat) : ct_I l y_L_damp w_L_damp { frames := 8, cells := 2, slots := 12, locals := 190 } (dC, dI) cl9 [(cL, .long)] (lg_G s1 s2 s3 s4 tl th ta) [.ref fx, .int t, .int h, .ref ot] ((ot, .inl (cL, 1, .inr (.inl o))) :: fw_w fx sd tb tc ad cL u) sz (S := (Nat → Int64) × rk_U) (fun r (w : (Nat → Int64) × rk_U) => (r = 0 ∧ ((-4000 ≤ t.toInt64 ∧ t.toInt64 ≤ 10000) ∧ (0 ≤ h.toInt64 ∧ h.toInt64 ≤ 10000)) ∧ w.1 0 = fn_r (61094 * h.toInt64) (rk_raise (141 * t.toInt64) (8 * (24304 + t.toInt64)) u) / 1000) ∨ (r = 1 ∧ ((t.toInt64 < -4000 ∨ 10000 < t.toInt64) ∨ (h.toInt64 < 0 ∨ 10000 < h.toInt64)))) (fun _ : (Nat → Int64) × rk_U => [(cL, .long)]) (fun w : (Nat → Int64) × rk_U => (ot, .inl (cL, 1, .inr (.inl w.1))) :: fw_w fx sd tb tc ad cL w.2) 2 12 := by
  refine ch_of (Qf := fun A => va_Qi (fun r (w : (Nat → Int64) × rk_U) => (r = 0 ∧ ((-4000 ≤ t.toInt64 ∧ t.toInt64 ≤ 10000) ∧ (0 ≤ h.toInt64 ∧ h.toInt64 ≤ 10000)) ∧ w.1 0 = fn_r (61094 * h.toInt64) (rk_raise (141 * t.toInt64) (8 * (24304 + t.toInt64)) u) / 1000) ∨ (r = 1 ∧ ((t.toInt64 < -4000 ∨ 10000 < t.toInt64) ∨ (h.toInt64 < 0 ∨ 10000 < h.toInt64)))) (ct_B (S := (Nat → Int64) × rk_U) (dC, dI) cl9 (fun _ : (Nat → Int64) × rk_U => [(cL, .long)]) A (fun w : (Nat → Int64) × rk_U => (ot, .inl (cL, 1, .inr (.inl w.1))) :: fw_w fx sd tb tc ad cL w.2)) A) (cc := b_L_damp) (maxL := 5) (ret := some .int) (by decide) rfl (Nat.le_of_ble_eq_true rfl) ?_
  intro p e s m below meth c A ls hF ht hA hP hK hD hG hS hl
  obtain ⟨hx, hb, hr, hml, hts, hown, hlocks, hnm⟩ := id hF
  have hown : s.vm.findClass R_L = some m.cls := hown
  have ha : ∀ w ∈ al_L, w.before [.ref fx, .int t, .int h, .ref ot].toArray s = true := fun w h => hts w (List.mem_cons_of_mem _ h)
  have hl : lv_has ls 5 [(0, .ref fx), (1, .int t), (2, .int h), (3, .ref ot)] := hl
  refine lv_aload_n hx hb d_L_damp_0 rfl (lv_at hl 3 rfl) ?_
  refine lv_iconst (v := 0) hx hb d_L_damp_1 (by decide) ?_
  refine lv_aload_n hx hb d_L_damp_2 rfl (lv_at hl 0 rfl) ?_
  refine lv_iload_n hx hb d_L_damp_3 rfl (lv_at hl 1 rfl) ?_
  refine lv_iload_n hx hb d_L_damp_4 rfl (lv_at hl 2 rfl) ?_
  refine cx_calll (vx_runV (As := [.int t, .int h]) (rest := [.int 0, .ref ot]) ⟨hx, hb, hml, hown, ha⟩ (c_F_damp l hst dC dI fx sd tb tc ad cL u s1 s2 s3 s4 tl th ta t h _) (cwV 2 ha g_L_F_damp rfl rfl rfl (by decide +kernel) ⟨Nat.le_of_ble_eq_true rfl, Nat.le_of_ble_eq_true rfl⟩) (ct_preV (fg_Gok s1 s2 s3 s4 tl th ta) hG.1 hK hP hD hS hA [1, 2, 3, 4, 5, 6, 7, 8, 9, 10, 11, 12, 13, 14, 15, 16, 17] rfl (by decide) [0] rfl 1 3 rfl rfl rfl) rfl rfl hl.1 rfl (lv_room (Nat.le_of_ble_eq_true rfl)) d_L_damp_5 ⟨Nat.le_of_ble_eq_true rfl, Nat.le_of_ble_eq_true rfl⟩) hP hD hS hA [1, 2, 3, 4, 5, 6, 7, 8, 9, 10, 11, 12, 13, 14, 15, 16, 17] rfl (by decide) (fun _ => rfl) (fun E ce q9 H locs hE hP hS hcell hv hcl => ?_) (fun r u9 H locs hw hP hD hS => ?_)
  · obtain ⟨rfl, hE⟩ := hE
    refine vx_catch (own := R_L) (name := "java/lang/IllegalArgumentException") hown [] ⟨0, 9, 12, 13⟩ [] ht (fun z hz => absurd hz List.not_mem_nil) (by decide) (by decide) (ha _ wm_L_9) (va_Nw.use rfl (hG.1.1.1.1 _ (by decide +kernel))) hcell hv hcl ?_
    refine lv_astore (lv' := [(4, .ref q9), (0, .ref fx), (1, .int t), (2, .int h), (3, .ref ot)]) hx hb d_L_damp_12 hl (by decide) rfl (fun ls hl => ?_)
    refine lv_iconst (v := 1) hx hb d_L_damp_14 (by decide) ?_
    exact ct_iret hF d_L_damp_15 (o, u) (Or.inr ⟨rfl, hE⟩) hP hD hK hS
  · obtain ⟨hP, hD⟩ : va_P (dC, dI) cl9 ((ot, .inl (cL, 1, .inr (.inl o))) :: fw_w fx sd tb tc ad cL u9) H ∧ va_D A ((ot, .inl (cL, 1, .inr (.inl o))) :: fw_w fx sd tb tc ad cL u9) := ct_eqP (lwA (ot, .inl (cL, 1, .inr (.inl o))) fx sd tb tc ad cL u u9) hP hD
    refine ct_last hx hb hK hP hD hS 0 0 rfl rfl 0 rfl (by omega) (by omega) d_L_damp_8 (fun H locs hP hD hS => ?_)
    have hP : va_P (dC, dI) cl9 ((ot, .inl (cL, 1, .inr (.inl (vp_updL o 0 r)))) :: fw_w fx sd tb tc ad cL u9) H := hP
    have hD : va_D A ((ot, .inl (cL, 1, .inr (.inl (vp_updL o 0 r)))) :: fw_w fx sd tb tc ad cL u9) := hD
    refine lv_goto (tgt := 16) hx hb d_L_damp_9 (by decide) ?_
    refine lv_iconst (v := 0) hx hb d_L_damp_16 (by decide) ?_
    have e0 : vp_updL o 0 r 0 = r := up_eq o 0 r
    exact ct_iret hF d_L_damp_17 (vp_updL o 0 r, u9) (Or.inl ⟨rfl, by dsimp only; rw [e0]; exact hw⟩) hP hD hK hS
set_option maxHeartbeats 1000000 in
set_option maxRecDepth 100000 in
/-- the law's dew -/
theorem c_L_dew (l : Launch) (hst : l.stackTraces = false) (dC : Nat → ClassId) (dI : Nat → Nat → Nat) (ot : Nat) (o : Nat → Int64) (fx : Nat) (sd : Int64) (tb tc : Nat) (ad : Nat → Nat) (cL : ClassId) (u : rk_U) (s1 s2 s3 s4 tl th ta : Nat) (p9 : Int32) (sz : Nat) : ct_I l y_L_dew w_L_dew { frames := 8, cells := 1, slots := 6, locals := 190 } (dC, dI) cl9 [(cL, .long)] (lg_G s1 s2 s3 s4 tl th ta) [.ref fx, .int p9, .ref ot] ((ot, .inl (cL, 1, .inr (.inl o))) :: fw_w fx sd tb tc ad cL u) sz (S := (Nat → Int64) × rk_U) (fun r (w : (Nat → Int64) × rk_U) => (r = 0 ∧ (0 ≤ p9.toInt64 ∧ p9.toInt64 ≤ 1000000000) ∧ w.1 0 = dw_r (dw_lo (dw_0 p9 u))) ∨ (r = 1 ∧ (p9.toInt64 < 0 ∨ 1000000000 < p9.toInt64))) (fun _ : (Nat → Int64) × rk_U => [(cL, .long)]) (fun w : (Nat → Int64) × rk_U => (ot, .inl (cL, 1, .inr (.inl w.1))) :: fw_w fx sd tb tc ad cL w.2) 1 6 := by
  refine ch_of (Qf := fun A => va_Qi (fun r (w : (Nat → Int64) × rk_U) => (r = 0 ∧ (0 ≤ p9.toInt64 ∧ p9.toInt64 ≤ 1000000000) ∧ w.1 0 = dw_r (dw_lo (dw_0 p9 u))) ∨ (r = 1 ∧ (p9.toInt64 < 0 ∨ 1000000000 < p9.toInt64))) (ct_B (S := (Nat → Int64) × rk_U) (dC, dI) cl9 (fun _ : (Nat → Int64) × rk_U => [(cL, .long)]) A (fun w : (Nat → Int64) × rk_U => (ot, .inl (cL, 1, .inr (.inl w.1))) :: fw_w fx sd tb tc ad cL w.2)) A) (cc := b_L_dew) (maxL := 4) (ret := some .int) (by decide) rfl (Nat.le_of_ble_eq_true rfl) ?_
  intro p e s m below meth c A ls hF ht hA hP hK hD hG hS hl
  obtain ⟨hx, hb, hr, hml, hts, hown, hlocks, hnm⟩ := id hF
  have hown : s.vm.findClass R_L = some m.cls := hown
  have ha : ∀ w ∈ al_L, w.before [.ref fx, .int p9, .ref ot].toArray s = true := fun w h => hts w (List.mem_cons_of_mem _ h)
  have hl : lv_has ls 4 [(0, .ref fx), (1, .int p9), (2, .ref ot)] := hl
  refine lv_aload_n hx hb d_L_dew_0 rfl (lv_at hl 2 rfl) ?_
  refine lv_iconst (v := 0) hx hb d_L_dew_1 (by decide) ?_
  refine lv_aload_n hx hb d_L_dew_2 rfl (lv_at hl 0 rfl) ?_
  refine lv_iload_n hx hb d_L_dew_3 rfl (lv_at hl 1 rfl) ?_
  refine cx_calll (vx_runV (As := [.int p9]) (rest := [.int 0, .ref ot]) ⟨hx, hb, hml, hown, ha⟩ (c_F_dew l hst dC dI fx sd tb tc ad cL u s1 s2 s3 s4 tl th ta p9 _) (cwV 1 ha g_L_F_dew rfl rfl rfl (by decide +kernel) ⟨Nat.le_of_ble_eq_true rfl, Nat.le_of_ble_eq_true rfl⟩) (ct_preV (fg_Gok s1 s2 s3 s4 tl th ta) hG.1 hK hP hD hS hA [1, 2, 3, 4, 5, 6, 7, 8, 9, 10, 11, 12, 13, 14, 15, 16, 17] rfl (by decide) [0] rfl 1 3 rfl rfl rfl) rfl rfl hl.1 rfl (lv_room (Nat.le_of_ble_eq_true rfl)) d_L_dew_4 ⟨Nat.le_of_ble_eq_true rfl, Nat.le_of_ble_eq_true rfl⟩) hP hD hS hA [1, 2, 3, 4, 5, 6, 7, 8, 9, 10, 11, 12, 13, 14, 15, 16, 17] rfl (by decide) (fun _ => rfl) (fun E ce q9 H locs hE hP hS hcell hv hcl => ?_) (fun r u9 H locs hw hP hD hS => ?_)
  · obtain ⟨rfl, hE⟩ := hE
    refine vx_catch (own := R_L) (name := "java/lang/IllegalArgumentException") hown [] ⟨0, 8, 11, 13⟩ [] ht (fun z hz => absurd hz List.not_mem_nil) (by decide) (by decide) (ha _ wm_L_9) (va_Nw.use rfl (hG.1.1.1.1 _ (by decide +kernel))) hcell hv hcl ?_
    refine lv_astore_n (lv' := [(3, .ref q9), (0, .ref fx), (1, .int p9), (2, .ref ot)]) hx hb d_L_dew_11 rfl hl (by decide) rfl (fun ls hl => ?_)
    refine lv_iconst (v := 1) hx hb d_L_dew_12 (by decide) ?_
    exact ct_iret hF d_L_dew_13 (o, u) (Or.inr ⟨rfl, hE⟩) hP hD hK hS
  · obtain ⟨hP, hD⟩ : va_P (dC, dI) cl9 ((ot, .inl (cL, 1, .inr (.inl o))) :: fw_w fx sd tb tc ad cL u9) H ∧ va_D A ((ot, .inl (cL, 1, .inr (.inl o))) :: fw_w fx sd tb tc ad cL u9) := ct_eqP (lwA (ot, .inl (cL, 1, .inr (.inl o))) fx sd tb tc ad cL u u9) hP hD
    refine ct_last hx hb hK hP hD hS 0 0 rfl rfl 0 rfl (by omega) (by omega) d_L_dew_7 (fun H locs hP hD hS => ?_)
    have hP : va_P (dC, dI) cl9 ((ot, .inl (cL, 1, .inr (.inl (vp_updL o 0 r)))) :: fw_w fx sd tb tc ad cL u9) H := hP
    have hD : va_D A ((ot, .inl (cL, 1, .inr (.inl (vp_updL o 0 r)))) :: fw_w fx sd tb tc ad cL u9) := hD
    refine lv_goto (tgt := 14) hx hb d_L_dew_8 (by decide) ?_
    refine lv_iconst (v := 0) hx hb d_L_dew_14 (by decide) ?_
    have e0 : vp_updL o 0 r 0 = r := up_eq o 0 r
    exact ct_iret hF d_L_dew_15 (vp_updL o 0 r, u9) (Or.inl ⟨rfl, by dsimp only; rw [e0]; exact hw⟩) hP hD hK hS
