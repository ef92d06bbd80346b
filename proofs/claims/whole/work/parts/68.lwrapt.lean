set_option maxHeartbeats 1000000 in
set_option maxRecDepth 100000 in
/-- the law's at -/
theorem c_L_at (l : Launch) (hst : l.stackTraces = false) (dC : Nat → ClassId) (dI : Nat → Nat → Nat) (ot : Nat) (o : Nat → Int64) (fx : Nat) (sd : Int64) (tb tc ra : Nat) (htc : tc ≤ 6) (cL cT cI : ClassId) (tt : Nat → Nat) (T : fq_T) (s1 s2 s3 s4 tl th ta : Nat) (hT : ∀ j : Nat, j < 6 → (T j).1 ≤ 20) (t : Int32) (pl : Int32) (sz : Nat) : ct_I l y_L_at w_L_at { frames := 8, cells := 1, slots := 6, locals := 190 } (dC, dI) cl9 [(cL, .long), (cT, .object "HouseFunctions$Table"), (cI, .int)] (lg_G s1 s2 s3 s4 tl th ta) [.ref fx, .int t, .int pl, .ref ot] ((ot, .inl (cL, 1, .inr (.inl o))) :: fq_w fx sd tb tc ra cT cI tt T) sz (S := Nat → Int64) (fun r (w : Nat → Int64) => (r = 0 ∧ ∃ j : Nat, j < tc ∧ t = nI j ∧ w 0 = tb_val (T j).1 (T j).2.1 (T j).2.2 pl) ∨ (r = 1 ∧ (¬ ∃ j : Nat, j < tc ∧ t = nI j))) (fun _ : Nat → Int64 => [(cL, .long), (cT, .object "HouseFunctions$Table"), (cI, .int)]) (fun w : Nat → Int64 => (ot, .inl (cL, 1, .inr (.inl w))) :: fq_w fx sd tb tc ra cT cI tt T) 1 6 := by
  refine ch_of (Qf := fun A => va_Qi (fun r (w : Nat → Int64) => (r = 0 ∧ ∃ j : Nat, j < tc ∧ t = nI j ∧ w 0 = tb_val (T j).1 (T j).2.1 (T j).2.2 pl) ∨ (r = 1 ∧ (¬ ∃ j : Nat, j < tc ∧ t = nI j))) (ct_B (S := Nat → Int64) (dC, dI) cl9 (fun _ : Nat → Int64 => [(cL, .long), (cT, .object "HouseFunctions$Table"), (cI, .int)]) A (fun w : Nat → Int64 => (ot, .inl (cL, 1, .inr (.inl w))) :: fq_w fx sd tb tc ra cT cI tt T)) A) (cc := b_L_at) (maxL := 5) (ret := some .int) (by decide) rfl (Nat.le_of_ble_eq_true rfl) ?_
  intro p e s m below meth c A ls hF ht hA hP hK hD hG hS hl
  obtain ⟨hx, hb, hr, hml, hts, hown, hlocks, hnm⟩ := id hF
  have hown : s.vm.findClass R_L = some m.cls := hown
  have ha : ∀ w ∈ al_L, w.before [.ref fx, .int t, .int pl, .ref ot].toArray s = true := fun w h => hts w (List.mem_cons_of_mem _ h)
  have hl : lv_has ls 5 [(0, .ref fx), (1, .int t), (2, .int pl), (3, .ref ot)] := hl
  refine lv_aload_n hx hb d_L_at_0 rfl (lv_at hl 3 rfl) ?_
  refine lv_iconst (v := 0) hx hb d_L_at_1 (by decide) ?_
  refine lv_aload_n hx hb d_L_at_2 rfl (lv_at hl 0 rfl) ?_
  refine lv_iload_n hx hb d_L_at_3 rfl (lv_at hl 1 rfl) ?_
  refine lv_iload_n hx hb d_L_at_4 rfl (lv_at hl 2 rfl) ?_
  refine cx_calll (vx_runV (As := [.int t, .int pl]) (rest := [.int 0, .ref ot]) ⟨hx, hb, hml, hown, ha⟩ (c_F_at l hst dC dI fx sd tb tc ra htc cT cI tt T s1 s2 s3 s4 hT t pl _) (cwV 2 ha g_L_F_at rfl rfl rfl (by decide +kernel) ⟨Nat.le_of_ble_eq_true rfl, Nat.le_of_ble_eq_true rfl⟩) (ct_preV (xg_Gok s1 s2 s3 s4) hG.1.1 hK hP hD hS hA [1, 2, 3, 4, 5, 6, 7, 8, 9, 10, 11, 12, 13, 14, 15, 16, 17, 18, 19, 20] rfl (by decide) [1, 2] rfl 1 3 rfl rfl rfl) rfl rfl hl.1 rfl (lv_room (Nat.le_of_ble_eq_true rfl)) d_L_at_5 ⟨Nat.le_of_ble_eq_true rfl, Nat.le_of_ble_eq_true rfl⟩) hP hD hS hA [1, 2, 3, 4, 5, 6, 7, 8, 9, 10, 11, 12, 13, 14, 15, 16, 17, 18, 19, 20] rfl (by decide) (fun _ => rfl) (fun E ce q9 H locs hE hP hS hcell hv hcl => ?_) (fun r u9 H locs hw hP hD hS => ?_)
  · obtain ⟨rfl, hE⟩ := hE
    refine vx_catch (own := R_L) (name := "java/lang/IllegalArgumentException") hown [] ⟨0, 9, 12, 13⟩ [] ht (fun z hz => absurd hz List.not_mem_nil) (by decide) (by decide) (ha _ wm_L_9) (va_Nw.use rfl (hG.1.1.1.1 _ (by decide +kernel))) hcell hv hcl ?_
    refine lv_astore (lv' := [(4, .ref q9), (0, .ref fx), (1, .int t), (2, .int pl), (3, .ref ot)]) hx hb d_L_at_12 hl (by decide) rfl (fun ls hl => ?_)
    refine lv_iconst (v := 1) hx hb d_L_at_14 (by decide) ?_
    exact ct_iret hF d_L_at_15 o (Or.inr ⟨rfl, hE⟩) hP hD hK hS
  · obtain ⟨hP, hD⟩ : va_P (dC, dI) cl9 ((ot, .inl (cL, 1, .inr (.inl o))) :: fq_w fx sd tb tc ra cT cI tt T) H ∧ va_D A ((ot, .inl (cL, 1, .inr (.inl o))) :: fq_w fx sd tb tc ra cT cI tt T) := ct_eqP (lwB (ot, .inl (cL, 1, .inr (.inl o))) fx sd tb tc ra cT cI tt T T) hP hD
    refine ct_last hx hb hK hP hD hS 0 0 rfl rfl 0 rfl (by omega) (by omega) d_L_at_8 (fun H locs hP hD hS => ?_)
    have hP : va_P (dC, dI) cl9 ((ot, .inl (cL, 1, .inr (.inl (vp_updL o 0 r)))) :: fq_w fx sd tb tc ra cT cI tt T) H := hP
    have hD : va_D A ((ot, .inl (cL, 1, .inr (.inl (vp_updL o 0 r)))) :: fq_w fx sd tb tc ra cT cI tt T) := hD
    refine lv_goto (tgt := 16) hx hb d_L_at_9 (by decide) ?_
    refine lv_iconst (v := 0) hx hb d_L_at_16 (by decide) ?_
    have e0 : vp_updL o 0 r 0 = r := up_eq o 0 r
    exact ct_iret hF d_L_at_17 (vp_updL o 0 r) (Or.inl ⟨rfl, by rw [e0]; exact hw⟩) hP hD hK hS
set_option maxHeartbeats 1000000 in
set_option maxRecDepth 100000 in
/-- the law's join -/
theorem c_L_join (l : Launch) (hst : l.stackTraces = false) (dC : Nat → ClassId) (dI : Nat → Nat → Nat) (ot : Nat) (o : Nat → Int64) (fx : Nat) (sd : Int64) (tb tc ra : Nat) (htc : tc ≤ 6) (cL cT cI : ClassId) (tt : Nat → Nat) (T : fq_T) (s1 s2 s3 s4 tl th ta : Nat) (hT : ∀ j : Nat, j < 6 → (T j).1 ≤ 20) (t : Int32) (o9 : Int32) (pl : Int32) (sz : Nat) : ct_I l y_L_join w_L_join { frames := 8, cells := 2, slots := 12, locals := 190 } (dC, dI) cl9 [(cL, .long), (cT, .object "HouseFunctions$Table"), (cI, .int)] (lg_G s1 s2 s3 s4 tl th ta) [.ref fx, .int t, .int o9, .int pl, .ref ot] ((ot, .inl (cL, 1, .inr (.inl o))) :: fq_w fx sd tb tc ra cT cI tt T) sz (S := Nat → Int64) (fun r (w : Nat → Int64) => (r = 0 ∧ ∃ i j : Nat, (i < tc ∧ t = nI i) ∧ (j < tc ∧ o9 = nI j) ∧ w 0 = jn_v (tb_val (T i).1 (T i).2.1 (T i).2.2 pl) (tb_val (T j).1 (T j).2.1 (T j).2.2 pl)) ∨ (r = 1 ∧ ((¬ ∃ j : Nat, j < tc ∧ t = nI j) ∨ (¬ ∃ j : Nat, j < tc ∧ o9 = nI j)))) (fun _ : Nat → Int64 => [(cL, .long), (cT, .object "HouseFunctions$Table"), (cI, .int)]) (fun w : Nat → Int64 => (ot, .inl (cL, 1, .inr (.inl w))) :: fq_w fx sd tb tc ra cT cI tt T) 2 12 := by
  refine ch_of (Qf := fun A => va_Qi (fun r (w : Nat → Int64) => (r = 0 ∧ ∃ i j : Nat, (i < tc ∧ t = nI i) ∧ (j < tc ∧ o9 = nI j) ∧ w 0 = jn_v (tb_val (T i).1 (T i).2.1 (T i).2.2 pl) (tb_val (T j).1 (T j).2.1 (T j).2.2 pl)) ∨ (r = 1 ∧ ((¬ ∃ j : Nat, j < tc ∧ t = nI j) ∨ (¬ ∃ j : Nat, j < tc ∧ o9 = nI j)))) (ct_B (S := Nat → Int64) (dC, dI) cl9 (fun _ : Nat → Int64 => [(cL, .long), (cT, .object "HouseFunctions$Table"), (cI, .int)]) A (fun w : Nat → Int64 => (ot, .inl (cL, 1, .inr (.inl w))) :: fq_w fx sd tb tc ra cT cI tt T)) A) (cc := b_L_join) (maxL := 6) (ret := some .int) (by decide) rfl (Nat.le_of_ble_eq_true rfl) ?_
  intro p e s m below meth c A ls hF ht hA hP hK hD hG hS hl
  obtain ⟨hx, hb, hr, hml, hts, hown, hlocks, hnm⟩ := id hF
  have hown : s.vm.findClass R_L = some m.cls := hown
  have ha : ∀ w ∈ al_L, w.before [.ref fx, .int t, .int o9, .int pl, .ref ot].toArray s = true := fun w h => hts w (List.mem_cons_of_mem _ h)
  have hl : lv_has ls 6 [(0, .ref fx), (1, .int t), (2, .int o9), (3, .int pl), (4, .ref ot)] := hl
  refine lv_aload hx hb d_L_join_0 (lv_at hl 4 rfl) ?_
  refine lv_iconst (v := 0) hx hb d_L_join_2 (by decide) ?_
  refine lv_aload_n hx hb d_L_join_3 rfl (lv_at hl 0 rfl) ?_
  refine lv_iload_n hx hb d_L_join_4 rfl (lv_at hl 1 rfl) ?_
  refine lv_iload_n hx hb d_L_join_5 rfl (lv_at hl 2 rfl) ?_
  refine lv_iload_n hx hb d_L_join_6 rfl (lv_at hl 3 rfl) ?_
  refine cx_calll (vx_runV (As := [.int t, .int o9, .int pl]) (rest := [.int 0, .ref ot]) ⟨hx, hb, hml, hown, ha⟩ (c_F_join l hst dC dI fx sd tb tc ra htc cT cI tt T s1 s2 s3 s4 hT t o9 pl _) (cwV 3 ha g_L_F_join rfl rfl rfl (by decide +kernel) ⟨Nat.le_of_ble_eq_true rfl, Nat.le_of_ble_eq_true rfl⟩) (ct_preV (xg_Gok s1 s2 s3 s4) hG.1.1 hK hP hD hS hA [1, 2, 3, 4, 5, 6, 7, 8, 9, 10, 11, 12, 13, 14, 15, 16, 17, 18, 19, 20] rfl (by decide) [1, 2] rfl 1 3 rfl rfl rfl) rfl rfl hl.1 rfl (lv_room (Nat.le_of_ble_eq_true rfl)) d_L_join_7 ⟨Nat.le_of_ble_eq_true rfl, Nat.le_of_ble_eq_true rfl⟩) hP hD hS hA [1, 2, 3, 4, 5, 6, 7, 8, 9, 10, 11, 12, 13, 14, 15, 16, 17, 18, 19, 20] rfl (by decide) (fun _ => rfl) (fun E ce q9 H locs hE hP hS hcell hv hcl => ?_) (fun r u9 H locs hw hP hD hS => ?_)
  · obtain ⟨rfl, hE⟩ := hE
    refine vx_catch (own := R_L) (name := "java/lang/IllegalArgumentException") hown [] ⟨0, 11, 14, 13⟩ [] ht (fun z hz => absurd hz List.not_mem_nil) (by decide) (by decide) (ha _ wm_L_9) (va_Nw.use rfl (hG.1.1.1.1 _ (by decide +kernel))) hcell hv hcl ?_
    refine lv_astore (lv' := [(5, .ref q9), (0, .ref fx), (1, .int t), (2, .int o9), (3, .int pl), (4, .ref ot)]) hx hb d_L_join_14 hl (by decide) rfl (fun ls hl => ?_)
    refine lv_iconst (v := 1) hx hb d_L_join_16 (by decide) ?_
    exact ct_iret hF d_L_join_17 o (Or.inr ⟨rfl, hE⟩) hP hD hK hS
  · obtain ⟨hP, hD⟩ : va_P (dC, dI) cl9 ((ot, .inl (cL, 1, .inr (.inl o))) :: fq_w fx sd tb tc ra cT cI tt T) H ∧ va_D A ((ot, .inl (cL, 1, .inr (.inl o))) :: fq_w fx sd tb tc ra cT cI tt T) := ct_eqP (lwB (ot, .inl (cL, 1, .inr (.inl o))) fx sd tb tc ra cT cI tt T T) hP hD
    refine ct_last hx hb hK hP hD hS 0 0 rfl rfl 0 rfl (by omega) (by omega) d_L_join_10 (fun H locs hP hD hS => ?_)
    have hP : va_P (dC, dI) cl9 ((ot, .inl (cL, 1, .inr (.inl (vp_updL o 0 r)))) :: fq_w fx sd tb tc ra cT cI tt T) H := hP
    have hD : va_D A ((ot, .inl (cL, 1, .inr (.inl (vp_updL o 0 r)))) :: fq_w fx sd tb tc ra cT cI tt T) := hD
    refine lv_goto (tgt := 18) hx hb d_L_join_11 (by decide) ?_
    refine lv_iconst (v := 0) hx hb d_L_join_18 (by decide) ?_
    have e0 : vp_updL o 0 r 0 = r := up_eq o 0 r
    exact ct_iret hF d_L_join_19 (vp_updL o 0 r) (Or.inl ⟨rfl, by rw [e0]; exact hw⟩) hP hD hK hS
set_option maxHeartbeats 1000000 in
set_option maxRecDepth 100000 in
/-- the law's table -/
theorem c_L_table (l : Launch) (hst : l.stackTraces = false) (dC : Nat → ClassId) (dI : Nat → Nat → Nat) (ot : Nat) (o : Nat → Int64) (fx : Nat) (sd : Int64) (tb tc ra : Nat) (htc : tc ≤ 6) (cL : ClassId) (s1 s2 s3 s4 tl th ta : Nat) (sz : Nat) : ct_I l y_L_table w_L_table { frames := 8, cells := 1, slots := 6, locals := 190 } (dC, dI) cl9 [(cL, .long)] (lg_G s1 s2 s3 s4 tl th ta) [.ref fx, .ref ot] [(ot, .inl (cL, 1, .inr (.inl o))), (fx, .inr (3, [.long sd, .ref tb, .int (nI tc), .ref ra]))] sz (S := (Nat → Int64) × Nat) (fun r (w : (Nat → Int64) × Nat) => (r = 0 ∧ tc < 6 ∧ w.1 0 = (nI tc).toInt64 ∧ w.2 = tc + 1) ∨ (r = 1 ∧ tc = 6 ∧ w.2 = tc)) (fun _ : (Nat → Int64) × Nat => [(cL, .long)]) (fun w : (Nat → Int64) × Nat => [(ot, .inl (cL, 1, .inr (.inl w.1))), (fx, .inr (3, [.long sd, .ref tb, .int (nI w.2), .ref ra]))]) 1 6 := by
  refine ch_of (Qf := fun A => va_Qi (fun r (w : (Nat → Int64) × Nat) => (r = 0 ∧ tc < 6 ∧ w.1 0 = (nI tc).toInt64 ∧ w.2 = tc + 1) ∨ (r = 1 ∧ tc = 6 ∧ w.2 = tc)) (ct_B (S := (Nat → Int64) × Nat) (dC, dI) cl9 (fun _ : (Nat → Int64) × Nat => [(cL, .long)]) A (fun w : (Nat → Int64) × Nat => [(ot, .inl (cL, 1, .inr (.inl w.1))), (fx, .inr (3, [.long sd, .ref tb, .int (nI w.2), .ref ra]))])) A) (cc := b_L_table) (maxL := 3) (ret := some .int) (by decide) rfl (Nat.le_of_ble_eq_true rfl) ?_
  intro p e s m below meth c A ls hF ht hA hP hK hD hG hS hl
  obtain ⟨hx, hb, hr, hml, hts, hown, hlocks, hnm⟩ := id hF
  have hown : s.vm.findClass R_L = some m.cls := hown
  have ha : ∀ w ∈ al_L, w.before [.ref fx, .ref ot].toArray s = true := fun w h => hts w (List.mem_cons_of_mem _ h)
  have hl : lv_has ls 3 [(0, .ref fx), (1, .ref ot)] := hl
  refine lv_aload_n hx hb d_L_table_0 rfl (lv_at hl 1 rfl) ?_
  refine lv_iconst (v := 0) hx hb d_L_table_1 (by decide) ?_
  refine lv_aload_n hx hb d_L_table_2 rfl (lv_at hl 0 rfl) ?_
  refine cx_calli (vx_runV (As := []) (rest := [.int 0, .ref ot]) ⟨hx, hb, hml, hown, ha⟩ (c_F_table l hst dC dI fx sd tb tc ra htc s1 s2 s3 s4 _) (cwV 0 ha g_L_F_table rfl rfl rfl (by decide +kernel) ⟨Nat.le_of_ble_eq_true rfl, Nat.le_of_ble_eq_true rfl⟩) (ct_preV (xg_Gok s1 s2 s3 s4) hG.1.1 hK hP hD hS hA [1] rfl (by decide) [] rfl 1 3 rfl rfl rfl) rfl rfl hl.1 rfl (lv_room (Nat.le_of_ble_eq_true rfl)) d_L_table_3 ⟨Nat.le_of_ble_eq_true rfl, Nat.le_of_ble_eq_true rfl⟩) hP hD hS hA [1] rfl (by decide) (fun _ => rfl) (fun E ce q9 H locs hE hP hS hcell hv hcl => ?_) (fun r u9 H locs hw hP hD hS => ?_)
  · obtain ⟨rfl, hE⟩ := hE
    refine vx_catch (own := R_L) (name := "java/lang/IllegalStateException") hown [] ⟨0, 8, 11, 43⟩ [] ht (fun z hz => absurd hz List.not_mem_nil) (by decide) (by decide) (ha _ wm_L_34) (va_Nw.use rfl (hG.1.1.1.1 _ (by decide +kernel))) hcell hv hcl ?_
    refine lv_astore_n (lv' := [(2, .ref q9), (0, .ref fx), (1, .ref ot)]) hx hb d_L_table_11 rfl hl (by decide) rfl (fun ls hl => ?_)
    refine lv_iconst (v := 1) hx hb d_L_table_12 (by decide) ?_
    exact ct_iret hF d_L_table_13 (o, tc) (Or.inr ⟨rfl, hE, rfl⟩) hP hD hK hS
  · have hP : va_P (dC, dI) cl9 [(ot, .inl (cL, 1, .inr (.inl o))), (fx, .inr (3, [.long sd, .ref tb, .int (nI u9), .ref ra]))] H := hP
    have hD : va_D A [(ot, .inl (cL, 1, .inr (.inl o))), (fx, .inr (3, [.long sd, .ref tb, .int (nI u9), .ref ra]))] := hD
    refine lv_i2l hx hb d_L_table_6 rfl ?_
    refine ct_last hx hb hK hP hD hS 0 0 rfl rfl 0 rfl (by omega) (by omega) d_L_table_7 (fun H locs hP hD hS => ?_)
    have hP : va_P (dC, dI) cl9 [(ot, .inl (cL, 1, .inr (.inl (vp_updL o 0 ((r : Int32).toInt64))))), (fx, .inr (3, [.long sd, .ref tb, .int (nI u9), .ref ra]))] H := hP
    have hD : va_D A [(ot, .inl (cL, 1, .inr (.inl (vp_updL o 0 ((r : Int32).toInt64))))), (fx, .inr (3, [.long sd, .ref tb, .int (nI u9), .ref ra]))] := hD
    refine lv_goto (tgt := 14) hx hb d_L_table_8 (by decide) ?_
    refine lv_iconst (v := 0) hx hb d_L_table_14 (by decide) ?_
    have e0 : vp_updL o 0 ((r : Int32).toInt64) 0 = (r : Int32).toInt64 := up_eq o 0 _
    exact ct_iret hF d_L_table_15 (vp_updL o 0 ((r : Int32).toInt64), u9) (Or.inl ⟨rfl, hw.1, by dsimp only; rw [e0, hw.2.1], hw.2.2⟩) hP hD hK hS
set_option maxHeartbeats 1000000 in
set_option maxRecDepth 100000 in
/-- the law's row -/
theorem c_L_row (l : Launch) (hst : l.stackTraces = false) (dC : Nat → ClassId) (dI : Nat → Nat → Nat) (ot : Nat) (o : Nat → Int64) (fx : Nat) (sd : Int64) (tb tc ra : Nat) (htc : tc ≤ 6) (cL cT cI : ClassId) (tt : Nat → Nat) (T : fq_T) (s1 s2 s3 s4 tl th ta : Nat) (hT : ∀ j : Nat, j < 6 → (T j).1 ≤ 20) (t : Int32) (pl : Int32) (va : Int32) (sz : Nat) : ct_I l y_L_row w_L_row { frames := 9, cells := 4, slots := 24, locals := 210 } (dC, dI) cl9 [(cL, .long), (cT, .object "HouseFunctions$Table"), (cI, .int)] (lg_G s1 s2 s3 s4 tl th ta) [.ref fx, .int t, .int pl, .int va, .ref ot] ((ot, .inl (cL, 1, .inr (.inl o))) :: fq_w fx sd tb tc ra cT cI tt T) sz (S := (Nat → Int64) × fq_T) (fun r (w : (Nat → Int64) × fq_T) => (r = 0 ∧ ∃ r9 : Int32, w.1 0 = r9.toInt64 ∧ (-1000000000 ≤ pl.toInt64 ∧ pl.toInt64 ≤ 1000000000) ∧ (-1000000000 ≤ va.toInt64 ∧ va.toInt64 ≤ 1000000000) ∧ ∃ j : Nat, j < tc ∧ t = nI j ∧ ¬ 20 ≤ (T j).1 ∧ ((tb_no (T j).1 (T j).2.1 pl ∧ r9 = -1 ∧ w.2 = va_up T j (T j)) ∨ (¬ tb_no (T j).1 (T j).2.1 pl ∧ r9 = nI ((T j).1 + 1) ∧ w.2 = va_up T j ((T j).1 + 1, upd (T j).2.1 (T j).1 pl, upd (T j).2.2 (T j).1 va)))) ∨ (r = 1 ∧ ((¬ ∃ j : Nat, j < tc ∧ t = nI j) ∨ (pl.toInt64 < -1000000000 ∨ 1000000000 < pl.toInt64) ∨ (va.toInt64 < -1000000000 ∨ 1000000000 < va.toInt64)) ∧ w.2 = T) ∨ (r = 2 ∧ ((-1000000000 ≤ pl.toInt64 ∧ pl.toInt64 ≤ 1000000000) ∧ (-1000000000 ≤ va.toInt64 ∧ va.toInt64 ≤ 1000000000) ∧ ∃ j : Nat, j < tc ∧ t = nI j ∧ 20 ≤ (T j).1) ∧ w.2 = T)) (fun _ : (Nat → Int64) × fq_T => [(cL, .long), (cT, .object "HouseFunctions$Table"), (cI, .int)]) (fun w : (Nat → Int64) × fq_T => (ot, .inl (cL, 1, .inr (.inl w.1))) :: fq_w fx sd tb tc ra cT cI tt w.2) 4 24 := by
  refine ch_of (Qf := fun A => va_Qi (fun r (w : (Nat → Int64) × fq_T) => (r = 0 ∧ ∃ r9 : Int32, w.1 0 = r9.toInt64 ∧ (-1000000000 ≤ pl.toInt64 ∧ pl.toInt64 ≤ 1000000000) ∧ (-1000000000 ≤ va.toInt64 ∧ va.toInt64 ≤ 1000000000) ∧ ∃ j : Nat, j < tc ∧ t = nI j ∧ ¬ 20 ≤ (T j).1 ∧ ((tb_no (T j).1 (T j).2.1 pl ∧ r9 = -1 ∧ w.2 = va_up T j (T j)) ∨ (¬ tb_no (T j).1 (T j).2.1 pl ∧ r9 = nI ((T j).1 + 1) ∧ w.2 = va_up T j ((T j).1 + 1, upd (T j).2.1 (T j).1 pl, upd (T j).2.2 (T j).1 va)))) ∨ (r = 1 ∧ ((¬ ∃ j : Nat, j < tc ∧ t = nI j) ∨ (pl.toInt64 < -1000000000 ∨ 1000000000 < pl.toInt64) ∨ (va.toInt64 < -1000000000 ∨ 1000000000 < va.toInt64)) ∧ w.2 = T) ∨ (r = 2 ∧ ((-1000000000 ≤ pl.toInt64 ∧ pl.toInt64 ≤ 1000000000) ∧ (-1000000000 ≤ va.toInt64 ∧ va.toInt64 ≤ 1000000000) ∧ ∃ j : Nat, j < tc ∧ t = nI j ∧ 20 ≤ (T j).1) ∧ w.2 = T)) (ct_B (S := (Nat → Int64) × fq_T) (dC, dI) cl9 (fun _ : (Nat → Int64) × fq_T => [(cL, .long), (cT, .object "HouseFunctions$Table"), (cI, .int)]) A (fun w : (Nat → Int64) × fq_T => (ot, .inl (cL, 1, .inr (.inl w.1))) :: fq_w fx sd tb tc ra cT cI tt w.2)) A) (cc := b_L_row) (maxL := 6) (ret := some .int) (by decide) rfl (Nat.le_of_ble_eq_true rfl) ?_
  intro p e s m below meth c A ls hF ht hA hP hK hD hG hS hl
  obtain ⟨hx, hb, hr, hml, hts, hown, hlocks, hnm⟩ := id hF
  have hown : s.vm.findClass R_L = some m.cls := hown
  have ha : ∀ w ∈ al_L, w.before [.ref fx, .int t, .int pl, .int va, .ref ot].toArray s = true := fun w h => hts w (List.mem_cons_of_mem _ h)
  have hl : lv_has ls 6 [(0, .ref fx), (1, .int t), (2, .int pl), (3, .int va), (4, .ref ot)] := hl
  refine lv_aload hx hb d_L_row_0 (lv_at hl 4 rfl) ?_
  refine lv_iconst (v := 0) hx hb d_L_row_2 (by decide) ?_
  refine lv_aload_n hx hb d_L_row_3 rfl (lv_at hl 0 rfl) ?_
  refine lv_iload_n hx hb d_L_row_4 rfl (lv_at hl 1 rfl) ?_
  refine lv_iload_n hx hb d_L_row_5 rfl (lv_at hl 2 rfl) ?_
  refine lv_iload_n hx hb d_L_row_6 rfl (lv_at hl 3 rfl) ?_
  refine cx_calli (vx_runV (As := [.int t, .int pl, .int va]) (rest := [.int 0, .ref ot]) ⟨hx, hb, hml, hown, ha⟩ (c_F_row l hst dC dI fx sd tb tc ra htc cT cI tt T s1 s2 s3 s4 hT t pl va _) (cwV 3 ha g_L_F_row rfl rfl rfl (by decide +kernel) ⟨Nat.le_of_ble_eq_true rfl, Nat.le_of_ble_eq_true rfl⟩) (ct_preV (xg_Gok s1 s2 s3 s4) hG.1.1 hK hP hD hS hA [1, 2, 3, 4, 5, 6, 7, 8, 9, 10, 11, 12, 13, 14, 15, 16, 17, 18, 19, 20] rfl (by decide) [1, 2] rfl 1 3 rfl rfl rfl) rfl rfl hl.1 rfl (lv_room (Nat.le_of_ble_eq_true rfl)) d_L_row_7 ⟨Nat.le_of_ble_eq_true rfl, Nat.le_of_ble_eq_true rfl⟩) hP hD hS hA [1, 2, 3, 4, 5, 6, 7, 8, 9, 10, 11, 12, 13, 14, 15, 16, 17, 18, 19, 20] rfl (by decide) (fun _ => rfl) (fun E ce q9 H locs hE hP hS hcell hv hcl => ?_) (fun r u9 H locs hw hP hD hS => ?_)
  · rcases hE with ⟨rfl, hE⟩ | ⟨rfl, hE⟩
    · refine vx_catch (own := R_L) (name := "java/lang/IllegalArgumentException") hown [] ⟨0, 12, 15, 13⟩ [⟨0, 12, 19, 43⟩] ht (fun z hz => absurd hz List.not_mem_nil) (by decide) (by decide) (ha _ wm_L_9) (va_Nw.use rfl (hG.1.1.1.1 _ (by decide +kernel))) hcell hv hcl ?_
      refine lv_astore (lv' := [(5, .ref q9), (0, .ref fx), (1, .int t), (2, .int pl), (3, .int va), (4, .ref ot)]) hx hb d_L_row_15 hl (by decide) rfl (fun ls hl => ?_)
      refine lv_iconst (v := 1) hx hb d_L_row_17 (by decide) ?_
      exact ct_iret hF d_L_row_18 (o, T) (Or.inr (Or.inl ⟨rfl, hE, rfl⟩)) hP hD hK hS
    · refine vx_catch (own := R_L) (name := "java/lang/IllegalStateException") hown [⟨0, 12, 15, 13⟩] ⟨0, 12, 19, 43⟩ [] ht (fun z hz => by obtain rfl := List.mem_singleton.mp hz; exact Or.inr ⟨by decide, "java/lang/IllegalArgumentException", ha _ wm_L_9, hG.2⟩) (by decide) (by decide) (ha _ wm_L_34) (va_Nw.use rfl (hG.1.1.1.1 _ (by decide +kernel))) hcell hv hcl ?_
      refine lv_astore (lv' := [(5, .ref q9), (0, .ref fx), (1, .int t), (2, .int pl), (3, .int va), (4, .ref ot)]) hx hb d_L_row_19 hl (by decide) rfl (fun ls hl => ?_)
      refine lv_iconst (v := 2) hx hb d_L_row_21 (by decide) ?_
      exact ct_iret hF d_L_row_22 (o, T) (Or.inr (Or.inr ⟨rfl, hE, rfl⟩)) hP hD hK hS
  · obtain ⟨hP, hD⟩ : va_P (dC, dI) cl9 ((ot, .inl (cL, 1, .inr (.inl o))) :: fq_w fx sd tb tc ra cT cI tt u9) H ∧ va_D A ((ot, .inl (cL, 1, .inr (.inl o))) :: fq_w fx sd tb tc ra cT cI tt u9) := ct_eqP (lwB (ot, .inl (cL, 1, .inr (.inl o))) fx sd tb tc ra cT cI tt T u9) hP hD
    refine lv_i2l hx hb d_L_row_10 rfl ?_
    refine ct_last hx hb hK hP hD hS 0 0 rfl rfl 0 rfl (by omega) (by omega) d_L_row_11 (fun H locs hP hD hS => ?_)
    have hP : va_P (dC, dI) cl9 ((ot, .inl (cL, 1, .inr (.inl (vp_updL o 0 ((r : Int32).toInt64))))) :: fq_w fx sd tb tc ra cT cI tt u9) H := hP
    have hD : va_D A ((ot, .inl (cL, 1, .inr (.inl (vp_updL o 0 ((r : Int32).toInt64))))) :: fq_w fx sd tb tc ra cT cI tt u9) := hD
    refine lv_goto (tgt := 23) hx hb d_L_row_12 (by decide) ?_
    refine lv_iconst (v := 0) hx hb d_L_row_23 (by decide) ?_
    have e0 : vp_updL o 0 ((r : Int32).toInt64) 0 = (r : Int32).toInt64 := up_eq o 0 _
    exact ct_iret hF d_L_row_24 (vp_updL o 0 ((r : Int32).toInt64), u9) (Or.inl ⟨rfl, r, e0, hw⟩) hP hD hK hS
