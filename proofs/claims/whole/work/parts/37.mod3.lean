def mr_wh (f r : Nat) (v : Int64) (g : Nat → Int64) : Nat → Int64 := ir_ 0 (md_wh f r v g 24).1
def mr_by (r : Nat) (q : Int64) (g : Nat → Int64) : Nat → Int64 := ir_ 0 (md_by r q g 24).1
def mr_tim (r : Nat) (m : Int64) (g : Nat → Int64) : Nat → Int64 := ir_ 0 (md_tim r m g 24).1
def mr_add (r a : Nat) (g : Nat → Int64) : Nat → Int64 := ir_ 0 (md_add r a g 24).1
def mr_les (r a : Nat) (g : Nat → Int64) : Nat → Int64 := ir_ 0 (md_les r a g 24).1
def mr_cp (r a : Nat) (g : Nat → Int64) : Nat → Int64 := ir_ 0 (md_cp r a g 24)
def mr_be (f r : Nat) (g : Nat → Int64) : Int64 := ir_ 0 (md_be r g (24 - f))
def md_mi (x : Int64) (b : Nat) (g : Nat → Int64) (i : Nat) (p : Nat → Int64) : Nat → (Nat → Int64)
  | 0 => p
  | j + 1 => vp_updL (md_mi x b g i p j) (i + j) (md_mi x b g i p j (i + j) + x * g (24 * b + j))
def md_mo (a b : Nat) (g p : Nat → Int64) : Nat → (Nat → Int64)
  | 0 => wd_fl p 0 48
  | i + 1 => if g (24 * a + i) ≤ 0 then md_mo a b g p i else md_mi (g (24 * a + i)) b g i (md_mo a b g p i) 24
def md_m3 (f r : Nat) (p g : Nat → Int64) : Nat → (Nat → Int64) × Int64
  | 0 => (g, 0)
  | k + 1 => (if k < f then (md_m3 f r p g k).1 else if 24 ≤ k - f then (md_m3 f r p g k).1 else vp_updL (md_m3 f r p g k).1 (24 * r + (k - f)) (pu_rem (p k + (md_m3 f r p g k).2) 1000000), (p k + (md_m3 f r p g k).2) / 1000000)
def mr_mo (a b : Nat) (g p : Nat → Int64) : Nat → Int64 := ir_ 0 (md_mo a b g p 24)
def mr_mul (f r a b : Nat) (g p : Nat → Int64) : Nat → Int64 := ir_ 0 (md_m3 f r (md_mo a b g p 24) g 48).1
theorem md_ix2 (r k f : Nat) (h : f ≤ k) : (24 : Int32) * nI r + nI k - nI f = nI (24 * r + (k - f)) := by
  rw [md_ix, pk_sub (by omega), show 24 * r + k - f = 24 * r + (k - f) by omega]
def md_ol (r : Nat) (g : Nat → Int64) (c : Int64) : Nat → Int32
  | 0 => 1
  | i + 1 => if md_ol r g c i = 0 then 0 else if g (24 * r + (10 - i)) = c then 1 else 0
def md_op (r : Nat) (g : Nat → Int64) : Int32 := if md_ol r g 0 6 = 0 then (if md_ol r g 999999 6 = 0 then 0 else 1) else 1
set_option maxHeartbeats 4000000 in
set_option maxRecDepth 100000 in
/-- register r becomes v over q -/
theorem c_M_ratio (l : Launch) (dC : Nat → ClassId) (dI : Nat → Nat → Nat) (mx : Nat) (th : Int32) (sd : Int64) (nt : Int32) (ro : Nat) (pl : Nat) (vl : Nat) (f : Nat) (pa : Nat) (pr : Nat) (cL : ClassId) (g : Nat → Int64) (r : Nat) (v q : Int64) (hr9 : r < 10) (hf9 : f ≤ 24) (hq : ¬ q = 0) (sz : Nat) : ct_V l y_M_ratio w_M_ratio { frames := 1, cells := 0, slots := 0, locals := 28 } (dC, dI) cl9 [(cL, .long)] ct_G0 [.ref mx, .int (nI r), .long v, .long q] [(mx, .inr (4, [.int th, .long sd, .int nt, .ref ro, .ref pl, .ref vl, .int (nI f), .ref pa, .ref pr])), (pa, .inl (cL, 240, .inr (.inl g)))] sz (S := Nat → Int64) (fun u : Nat → Int64 => u = mr_by r q (mr_wh f r v g)) (fun _ : Nat → Int64 => [(cL, .long)]) (fun u : Nat → Int64 => [(mx, .inr (4, [.int th, .long sd, .int nt, .ref ro, .ref pl, .ref vl, .int (nI f), .ref pa, .ref pr])), (pa, .inl (cL, 240, .inr (.inl u)))]) 0 0 := by
  refine ct_of (Qf := fun A => va_Qv (fun u : Nat → Int64 => u = mr_by r q (mr_wh f r v g)) (ct_B (S := Nat → Int64) (dC, dI) cl9 (fun _ : Nat → Int64 => [(cL, .long)]) A (fun u : Nat → Int64 => [(mx, .inr (4, [.int th, .long sd, .int nt, .ref ro, .ref pl, .ref vl, .int (nI f), .ref pa, .ref pr])), (pa, .inl (cL, 240, .inr (.inl u)))])) A) (cc := b_M_ratio) (maxL := 6) (ret := none) (by decide) rfl (Nat.le_of_ble_eq_true rfl) ?_
  intro p e s m below meth c A ls hF hA hP hK hD hG hS hl
  obtain ⟨hx, hb, hr, hml, hts, hown, hlocks, hnm⟩ := id hF
  have hown : s.vm.findClass R_M = some m.cls := hown
  have ha : ∀ w ∈ al_M, w.before [.ref mx, .int (nI r), .long v, .long q].toArray s = true := fun w h => hts w (List.mem_cons_of_mem _ h)
  have hl : lv_has ls 6 [(0, .ref mx), (1, .int (nI r)), (2, .long v), (4, .long q)] := hl
  refine lv_aload_n hx hb d_M_ratio_0 rfl (lv_at hl 0 rfl) ?_
  refine lv_iload_n hx hb d_M_ratio_1 rfl (lv_at hl 1 rfl) ?_
  refine lv_lload_n hx hb d_M_ratio_2 rfl (lv_at hl 2 rfl) ?_
  refine cs_callv (va_runV (As := [.int (nI r), .long v]) (rest := []) ⟨hx, hb, hml, hown, ha⟩ (c_M_whole l dC dI mx th sd nt ro pl vl f pa pr cL g r v hr9 hf9 _) (cwV 2 ha g_M_M_whole rfl rfl rfl (by decide +kernel) ⟨Nat.le_of_ble_eq_true rfl, Nat.le_of_ble_eq_true rfl⟩) (ct_preV ct_G0ok trivial hK hP hD hS hA [0, 1] rfl (by decide) [0] rfl 0 4 rfl rfl rfl) rfl rfl hl.1 rfl (lv_room (Nat.le_of_ble_eq_true rfl)) d_M_ratio_3 ⟨Nat.le_of_ble_eq_true rfl, Nat.le_of_ble_eq_true rfl⟩) hP hD hS hA [0, 1] rfl (by decide) (fun _ => rfl) (fun u1 H locs hu1 hP hD hS => ?_)
  have hP : va_P (dC, dI) cl9 [(mx, .inr (4, [.int th, .long sd, .int nt, .ref ro, .ref pl, .ref vl, .int (nI f), .ref pa, .ref pr])), (pa, .inl (cL, 240, .inr (.inl u1)))] H := hP
  have hD : va_D A [(mx, .inr (4, [.int th, .long sd, .int nt, .ref ro, .ref pl, .ref vl, .int (nI f), .ref pa, .ref pr])), (pa, .inl (cL, 240, .inr (.inl u1)))] := hD
  refine lv_aload_n hx hb d_M_ratio_6 rfl (lv_at hl 0 rfl) ?_
  refine lv_iload_n hx hb d_M_ratio_7 rfl (lv_at hl 1 rfl) ?_
  refine lv_lload hx hb d_M_ratio_8 (lv_at hl 3 rfl) ?_
  refine cs_callv (va_runV (As := [.int (nI r), .long q]) (rest := []) ⟨hx, hb, hml, hown, ha⟩ (c_M_by l dC dI mx th sd nt ro pl vl f pa pr cL u1 r q hr9 hq _) (cwV 2 ha g_M_M_by rfl rfl rfl (by decide +kernel) ⟨Nat.le_of_ble_eq_true rfl, Nat.le_of_ble_eq_true rfl⟩) (ct_preV ct_G0ok trivial hK hP hD hS hA [0, 1] rfl (by decide) [0] rfl 0 4 rfl rfl rfl) rfl rfl hl.1 rfl (lv_room (Nat.le_of_ble_eq_true rfl)) d_M_ratio_10 ⟨Nat.le_of_ble_eq_true rfl, Nat.le_of_ble_eq_true rfl⟩) hP hD hS hA [0, 1] rfl (by decide) (fun _ => rfl) (fun u2 H locs hu2 hP hD hS => ?_)
  have hP : va_P (dC, dI) cl9 [(mx, .inr (4, [.int th, .long sd, .int nt, .ref ro, .ref pl, .ref vl, .int (nI f), .ref pa, .ref pr])), (pa, .inl (cL, 240, .inr (.inl u2)))] H := hP
  have hD : va_D A [(mx, .inr (4, [.int th, .long sd, .int nt, .ref ro, .ref pl, .ref vl, .int (nI f), .ref pa, .ref pr])), (pa, .inl (cL, 240, .inr (.inl u2)))] := hD
  exact ct_vret hF d_M_ratio_13 u2 (by unfold mr_by mr_wh; rw [ir_eq, ir_eq, ← hu1]; exact hu2) (hP.sub [0, 1] rfl) (hD.sub [0, 1] (by decide) rfl) hK hS
set_option maxHeartbeats 4000000 in
set_option maxRecDepth 100000 in
/-- billionths, rounded down -/
theorem c_M_told (l : Launch) (dC : Nat → ClassId) (dI : Nat → Nat → Nat) (mx : Nat) (th : Int32) (sd : Int64) (nt : Int32) (ro : Nat) (pl : Nat) (vl : Nat) (f : Nat) (pa : Nat) (pr : Nat) (cL : ClassId) (g : Nat → Int64) (r : Nat) (z : Int32) (hr9 : r < 10) (hf9 : f ≤ 24) (sz : Nat) : ct_L l y_M_told w_M_told { frames := 1, cells := 0, slots := 0, locals := 28 } (dC, dI) cl9 [(cL, .long)] ct_G0 [.ref mx, .int (nI r), .int z] [(mx, .inr (4, [.int th, .long sd, .int nt, .ref ro, .ref pl, .ref vl, .int (nI f), .ref pa, .ref pr])), (pa, .inl (cL, 240, .inr (.inl g)))] sz (S := Nat → Int64) (fun v (u : Nat → Int64) => u = mr_tim r 1000000000 g ∧ v = if z = 0 then mr_be f r u else -(mr_be f r u) - 1) (fun _ : Nat → Int64 => [(cL, .long)]) (fun u : Nat → Int64 => [(mx, .inr (4, [.int th, .long sd, .int nt, .ref ro, .ref pl, .ref vl, .int (nI f), .ref pa, .ref pr])), (pa, .inl (cL, 240, .inr (.inl u)))]) 0 0 := by
  refine ct_of (Qf := fun A => va_Ql (fun v (u : Nat → Int64) => u = mr_tim r 1000000000 g ∧ v = if z = 0 then mr_be f r u else -(mr_be f r u) - 1) (ct_B (S := Nat → Int64) (dC, dI) cl9 (fun _ : Nat → Int64 => [(cL, .long)]) A (fun u : Nat → Int64 => [(mx, .inr (4, [.int th, .long sd, .int nt, .ref ro, .ref pl, .ref vl, .int (nI f), .ref pa, .ref pr])), (pa, .inl (cL, 240, .inr (.inl u)))])) A) (cc := b_M_told) (maxL := 3) (ret := ((some .long))) (by decide) rfl (Nat.le_of_ble_eq_true rfl) ?_
  intro p e s m below meth c A ls hF hA hP hK hD hG hS hl
  obtain ⟨hx, hb, hr, hml, hts, hown, hlocks, hnm⟩ := id hF
  have hown : s.vm.findClass R_M = some m.cls := hown
  have ha : ∀ w ∈ al_M, w.before [.ref mx, .int (nI r), .int z].toArray s = true := fun w h => hts w (List.mem_cons_of_mem _ h)
  have hl : lv_has ls 3 [(0, .ref mx), (1, .int (nI r)), (2, .int z)] := hl
  refine lv_aload_n hx hb d_M_told_0 rfl (lv_at hl 0 rfl) ?_
  refine lv_iload_n hx hb d_M_told_1 rfl (lv_at hl 1 rfl) ?_
  refine lv_ldc2 (v := 1000000000) hx hb hown (ha _ wm_M_31) d_M_told_2 ?_
  refine cs_callv (va_runV (As := [.int (nI r), .long 1000000000]) (rest := []) ⟨hx, hb, hml, hown, ha⟩ (c_M_times l dC dI mx th sd nt ro pl vl f pa pr cL g r 1000000000 hr9 _) (cwV 2 ha g_M_M_times rfl rfl rfl (by decide +kernel) ⟨Nat.le_of_ble_eq_true rfl, Nat.le_of_ble_eq_true rfl⟩) (ct_preV ct_G0ok trivial hK hP hD hS hA [0, 1] rfl (by decide) [0] rfl 0 4 rfl rfl rfl) rfl rfl hl.1 rfl (lv_room (Nat.le_of_ble_eq_true rfl)) d_M_told_5 ⟨Nat.le_of_ble_eq_true rfl, Nat.le_of_ble_eq_true rfl⟩) hP hD hS hA [0, 1] rfl (by decide) (fun _ => rfl) (fun u1 H locs hu1 hP hD hS => ?_)
  have hP : va_P (dC, dI) cl9 [(mx, .inr (4, [.int th, .long sd, .int nt, .ref ro, .ref pl, .ref vl, .int (nI f), .ref pa, .ref pr])), (pa, .inl (cL, 240, .inr (.inl u1)))] H := hP
  have hD : va_D A [(mx, .inr (4, [.int th, .long sd, .int nt, .ref ro, .ref pl, .ref vl, .int (nI f), .ref pa, .ref pr])), (pa, .inl (cL, 240, .inr (.inl u1)))] := hD
  refine lv_iload_n hx hb d_M_told_8 rfl (lv_at hl 2 rfl) ?_
  refine lv_if_eq (tgt := 23) hx hb d_M_told_9 (by decide) (fun hz => ?_) (fun hz => ?_)
  · refine lv_aload_n hx hb d_M_told_23 rfl (lv_at hl 0 rfl) ?_
    refine lv_iload_n hx hb d_M_told_24 rfl (lv_at hl 1 rfl) ?_
    refine cs_calll (va_runV (As := [.int (nI r)]) (rest := []) ⟨hx, hb, hml, hown, ha⟩ (c_M_before l dC dI mx th sd nt ro pl vl f pa pr cL u1 r hr9 hf9 _) (cwV 1 ha g_M_M_before rfl rfl rfl (by decide +kernel) ⟨Nat.le_of_ble_eq_true rfl, Nat.le_of_ble_eq_true rfl⟩) (ct_preV ct_G0ok trivial hK hP hD hS hA [0, 1] rfl (by decide) [0] rfl 0 4 rfl rfl rfl) rfl rfl hl.1 rfl (lv_room (Nat.le_of_ble_eq_true rfl)) d_M_told_25 ⟨Nat.le_of_ble_eq_true rfl, Nat.le_of_ble_eq_true rfl⟩) hP hD hS hA [0, 1] rfl (by decide) (fun _ => rfl) (fun v9 u7 H locs hv9 hP hD hS => ?_)
    have hP : va_P (dC, dI) cl9 [(mx, .inr (4, [.int th, .long sd, .int nt, .ref ro, .ref pl, .ref vl, .int (nI f), .ref pa, .ref pr])), (pa, .inl (cL, 240, .inr (.inl u1)))] H := hP
    have hD : va_D A [(mx, .inr (4, [.int th, .long sd, .int nt, .ref ro, .ref pl, .ref vl, .int (nI f), .ref pa, .ref pr])), (pa, .inl (cL, 240, .inr (.inl u1)))] := hD
    obtain rfl : v9 = mr_be f r u1 := hv9.trans (ir_eq _).symm
    exact ct_lret hF d_M_told_28 u1 ⟨hu1.trans (ir_eq _).symm, (if_pos hz).symm⟩ (hP.sub [0, 1] rfl) (hD.sub [0, 1] (by decide) rfl) hK hS
  · refine lv_aload_n hx hb d_M_told_12 rfl (lv_at hl 0 rfl) ?_
    refine lv_iload_n hx hb d_M_told_13 rfl (lv_at hl 1 rfl) ?_
    refine cs_calll (va_runV (As := [.int (nI r)]) (rest := []) ⟨hx, hb, hml, hown, ha⟩ (c_M_before l dC dI mx th sd nt ro pl vl f pa pr cL u1 r hr9 hf9 _) (cwV 1 ha g_M_M_before rfl rfl rfl (by decide +kernel) ⟨Nat.le_of_ble_eq_true rfl, Nat.le_of_ble_eq_true rfl⟩) (ct_preV ct_G0ok trivial hK hP hD hS hA [0, 1] rfl (by decide) [0] rfl 0 4 rfl rfl rfl) rfl rfl hl.1 rfl (lv_room (Nat.le_of_ble_eq_true rfl)) d_M_told_14 ⟨Nat.le_of_ble_eq_true rfl, Nat.le_of_ble_eq_true rfl⟩) hP hD hS hA [0, 1] rfl (by decide) (fun _ => rfl) (fun v9 u7 H locs hv9 hP hD hS => ?_)
    have hP : va_P (dC, dI) cl9 [(mx, .inr (4, [.int th, .long sd, .int nt, .ref ro, .ref pl, .ref vl, .int (nI f), .ref pa, .ref pr])), (pa, .inl (cL, 240, .inr (.inl u1)))] H := hP
    have hD : va_D A [(mx, .inr (4, [.int th, .long sd, .int nt, .ref ro, .ref pl, .ref vl, .int (nI f), .ref pa, .ref pr])), (pa, .inl (cL, 240, .inr (.inl u1)))] := hD
    obtain rfl : v9 = mr_be f r u1 := hv9.trans (ir_eq _).symm
    refine lv_lneg hx hb d_M_told_17 ?_
    refine lv_lconst (v := 1) hx hb d_M_told_18 (by decide) ?_
    refine lv_lsub hx hb d_M_told_19 ?_
    refine lv_goto (tgt := 28) hx hb d_M_told_20 (by decide) ?_
    exact ct_lret hF d_M_told_28 u1 ⟨hu1.trans (ir_eq _).symm, (if_neg hz).symm⟩ (hP.sub [0, 1] rfl) (hD.sub [0, 1] (by decide) rfl) hK hS
