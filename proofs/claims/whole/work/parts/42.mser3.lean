set_option maxHeartbeats 4000000 in
set_option maxRecDepth 100000 in
/-- raised's series -/
theorem lp_M_raised {p : Program} {l : Launch} {e : Env} {R : Room} {s : State} {m : MethodId} {args : Array Value} {below : List Frame} {meth : Method} {c : Code} {Q : State → Prop} {A : Nat → Prop} {cells slots : Nat} {dC : Nat → ClassId} {dI : Nat → Nat → Nat} {mx : Nat} {th : Int32} {sd : Int64} {nt : Int32} {ro : Nat} {pl : Nat} {vl : Nat} {f : Nat} {pa : Nat} {pr : Nat} {cL : ClassId} {g : Nat → Int64} {p9 : Nat → Int64} {v : Int64} {q : Int64} {kk : Nat} (hF : ct_F p s m meth c b_M_raised none 6 w_M_raised y_M_raised args) (hA : ∀ q, s.heap.size ≤ q → A q) (hK : va_K (dC, dI) cl9 [(cL, .long)] s) (hRf : 2 ≤ R.frames) (hRl : 80 ≤ R.locals) (hRc : cells ≤ R.cells) (hRs : slots ≤ R.slots) (hf9 : f ≤ 24) (hkk : kk < 1000) (hk : ∀ i, i < kk → md_no 1 (ra_it f v q g p9 i).1 24 = 0) (hz : ¬ md_no 1 (ra_it f v q g p9 kk).1 24 = 0)
    (K : ∀ (H : Heap) (locs : List Loc) (ls : Array Slot), va_P (dC, dI) cl9 [(mx, .inr (4, [.int th, .long sd, .int nt, .ref ro, .ref pl, .ref vl, .int (nI f), .ref pa, .ref pr])), (pa, .inl (cL, 240, .inr (.inl ((ra_it f v q g p9 kk).1)))), (pr, .inl (cL, 48, .inr (.inl ((ra_it f v q g p9 kk).2))))] H → va_D A [(mx, .inr (4, [.int th, .long sd, .int nt, .ref ro, .ref pl, .ref vl, .int (nI f), .ref pa, .ref pr])), (pa, .inl (cL, 240, .inr (.inl ((ra_it f v q g p9 kk).1)))), (pr, .inl (cL, 48, .inr (.inl ((ra_it f v q g p9 kk).2))))] → va_S A s.heap H locs → lv_has ls 6 [(0, .ref mx), (5, .int (nI (3 + 2 * kk)))] → W p l e R s m args below meth c H locs cells slots Q (F0 m 64 ls [])) :
    ∀ (n9 i : Nat), i + n9 = kk → ∀ (H : Heap) (locs : List Loc) (ls : Array Slot), va_P (dC, dI) cl9 [(mx, .inr (4, [.int th, .long sd, .int nt, .ref ro, .ref pl, .ref vl, .int (nI f), .ref pa, .ref pr])), (pa, .inl (cL, 240, .inr (.inl ((ra_it f v q g p9 i).1)))), (pr, .inl (cL, 48, .inr (.inl ((ra_it f v q g p9 i).2))))] H → va_D A [(mx, .inr (4, [.int th, .long sd, .int nt, .ref ro, .ref pl, .ref vl, .int (nI f), .ref pa, .ref pr])), (pa, .inl (cL, 240, .inr (.inl ((ra_it f v q g p9 i).1)))), (pr, .inl (cL, 48, .inr (.inl ((ra_it f v q g p9 i).2))))] → va_S A s.heap H locs → lv_has ls 6 [(0, .ref mx), (5, .int (nI (3 + 2 * i)))] → W p l e R s m args below meth c H locs cells slots Q (F0 m 23 ls []) := by
  obtain ⟨hx, hb, hr, hml, hts, hown, hlocks, hnm⟩ := id hF
  have hown : s.vm.findClass R_M = some m.cls := hown
  have ha : ∀ w ∈ al_M, w.before args s = true := fun w h => hts w (List.mem_cons_of_mem _ h)
  intro n9
  induction n9 with
  | zero =>
    intro i hi H locs ls hP hD hS hl
    obtain rfl : kk = i := by omega
    refine lv_aload_n hx hb d_M_raised_23 rfl (lv_at hl 0 rfl) ?_
    refine lv_iconst (v := 1) hx hb d_M_raised_24 (by decide) ?_
    refine cs_calli (va_runV (As := [.int 1]) (rest := []) ⟨hx, hb, hml, hown, ha⟩ (c_M_isNothing l dC dI mx th sd nt ro pl vl f pa pr cL ((ra_it f v q g p9 kk).1) 1 (by omega) _) (cwV 1 ha g_M_M_isNothing rfl rfl rfl (by decide +kernel) ⟨Nat.le_trans (Nat.le_of_ble_eq_true rfl) hRf, Nat.le_trans (Nat.le_of_ble_eq_true rfl) hRl⟩) (ct_preV ct_G0ok trivial hK hP hD hS hA [0, 1] rfl (by decide) [0] rfl 0 4 rfl rfl rfl) rfl rfl hl.1 rfl (lv_room (Nat.le_of_ble_eq_true rfl)) d_M_raised_25 ⟨hRc, hRs⟩) hP hD hS hA [0, 1] rfl (by decide) (fun _ => rfl) (fun r9 u7 H locs hq hP hD hS => ?_)
    have hP : va_P (dC, dI) cl9 [(mx, .inr (4, [.int th, .long sd, .int nt, .ref ro, .ref pl, .ref vl, .int (nI f), .ref pa, .ref pr])), (pa, .inl (cL, 240, .inr (.inl ((ra_it f v q g p9 kk).1)))), (pr, .inl (cL, 48, .inr (.inl ((ra_it f v q g p9 kk).2))))] H := hP
    have hD : va_D A [(mx, .inr (4, [.int th, .long sd, .int nt, .ref ro, .ref pl, .ref vl, .int (nI f), .ref pa, .ref pr])), (pa, .inl (cL, 240, .inr (.inl ((ra_it f v q g p9 kk).1)))), (pr, .inl (cL, 48, .inr (.inl ((ra_it f v q g p9 kk).2))))] := hD
    refine lv_if_ne (tgt := 64) hx hb d_M_raised_28 (by decide) (fun hc => ?_) (fun hc => ?_)
    · exact K _ _ _ hP hD hS (lv_sub hl [0, 1] rfl)
    · exact absurd (hq.symm.trans hc) hz
  | succ n9 ih =>
    intro i hi H locs ls hP hD hS hl
    have hlt : i < kk := by omega
    refine lv_aload_n hx hb d_M_raised_23 rfl (lv_at hl 0 rfl) ?_
    refine lv_iconst (v := 1) hx hb d_M_raised_24 (by decide) ?_
    refine cs_calli (va_runV (As := [.int 1]) (rest := []) ⟨hx, hb, hml, hown, ha⟩ (c_M_isNothing l dC dI mx th sd nt ro pl vl f pa pr cL ((ra_it f v q g p9 i).1) 1 (by omega) _) (cwV 1 ha g_M_M_isNothing rfl rfl rfl (by decide +kernel) ⟨Nat.le_trans (Nat.le_of_ble_eq_true rfl) hRf, Nat.le_trans (Nat.le_of_ble_eq_true rfl) hRl⟩) (ct_preV ct_G0ok trivial hK hP hD hS hA [0, 1] rfl (by decide) [0] rfl 0 4 rfl rfl rfl) rfl rfl hl.1 rfl (lv_room (Nat.le_of_ble_eq_true rfl)) d_M_raised_25 ⟨hRc, hRs⟩) hP hD hS hA [0, 1] rfl (by decide) (fun _ => rfl) (fun r9 u7 H locs hq hP hD hS => ?_)
    have hP : va_P (dC, dI) cl9 [(mx, .inr (4, [.int th, .long sd, .int nt, .ref ro, .ref pl, .ref vl, .int (nI f), .ref pa, .ref pr])), (pa, .inl (cL, 240, .inr (.inl ((ra_it f v q g p9 i).1)))), (pr, .inl (cL, 48, .inr (.inl ((ra_it f v q g p9 i).2))))] H := hP
    have hD : va_D A [(mx, .inr (4, [.int th, .long sd, .int nt, .ref ro, .ref pl, .ref vl, .int (nI f), .ref pa, .ref pr])), (pa, .inl (cL, 240, .inr (.inl ((ra_it f v q g p9 i).1)))), (pr, .inl (cL, 48, .inr (.inl ((ra_it f v q g p9 i).2))))] := hD
    refine lv_if_ne (tgt := 64) hx hb d_M_raised_28 (by decide) (fun hc => ?_) (fun hc => ?_)
    · exact absurd (hq.trans (hk i hlt)) hc
    · refine lv_aload_n hx hb d_M_raised_31 rfl (lv_at hl 0 rfl) ?_
      refine lv_iconst (v := 1) hx hb d_M_raised_32 (by decide) ?_
      refine lv_iconst (v := 1) hx hb d_M_raised_33 (by decide) ?_
      refine lv_iconst (v := 2) hx hb d_M_raised_34 (by decide) ?_
      refine cs_callv (va_runV (As := [.int 1, .int 1, .int 2]) (rest := []) ⟨hx, hb, hml, hown, ha⟩ (c_M_multiply l dC dI mx th sd nt ro pl vl f pa pr cL ((ra_it f v q g p9 i).1) ((ra_it f v q g p9 i).2) 1 1 2 (by omega) (by omega) (by omega) hf9 _) (cwV 3 ha g_M_M_multiply rfl rfl rfl (by decide +kernel) ⟨Nat.le_trans (Nat.le_of_ble_eq_true rfl) hRf, Nat.le_trans (Nat.le_of_ble_eq_true rfl) hRl⟩) (ct_preV ct_G0ok trivial hK hP hD hS hA [0, 1, 2] rfl (by decide) [0] rfl 0 4 rfl rfl rfl) rfl rfl hl.1 rfl (lv_room (Nat.le_of_ble_eq_true rfl)) d_M_raised_35 ⟨hRc, hRs⟩) hP hD hS hA [0, 1, 2] rfl (by decide) (fun _ => rfl) (fun z_1 H locs hz_1 hP hD hS => ?_)
      have hP : va_P (dC, dI) cl9 [(mx, .inr (4, [.int th, .long sd, .int nt, .ref ro, .ref pl, .ref vl, .int (nI f), .ref pa, .ref pr])), (pa, .inl (cL, 240, .inr (.inl z_1.1))), (pr, .inl (cL, 48, .inr (.inl z_1.2)))] H := hP
      have hD : va_D A [(mx, .inr (4, [.int th, .long sd, .int nt, .ref ro, .ref pl, .ref vl, .int (nI f), .ref pa, .ref pr])), (pa, .inl (cL, 240, .inr (.inl z_1.1))), (pr, .inl (cL, 48, .inr (.inl z_1.2)))] := hD
      obtain ⟨g_2, p_3⟩ := z_1
      obtain ⟨hg_2, hp_3⟩ := hz_1
      have hg_2 : g_2 = mr_mul f 1 1 2 ((ra_it f v q g p9 i).1) ((ra_it f v q g p9 i).2) := hg_2
      have hp_3 : p_3 = mr_mo 1 2 ((ra_it f v q g p9 i).1) ((ra_it f v q g p9 i).2) := hp_3
      have hP : va_P (dC, dI) cl9 [(mx, .inr (4, [.int th, .long sd, .int nt, .ref ro, .ref pl, .ref vl, .int (nI f), .ref pa, .ref pr])), (pa, .inl (cL, 240, .inr (.inl g_2))), (pr, .inl (cL, 48, .inr (.inl p_3)))] H := hP
      have hD : va_D A [(mx, .inr (4, [.int th, .long sd, .int nt, .ref ro, .ref pl, .ref vl, .int (nI f), .ref pa, .ref pr])), (pa, .inl (cL, 240, .inr (.inl g_2))), (pr, .inl (cL, 48, .inr (.inl p_3)))] := hD
      refine lv_aload_n hx hb d_M_raised_38 rfl (lv_at hl 0 rfl) ?_
      refine lv_iconst (v := 5) hx hb d_M_raised_39 (by decide) ?_
      refine lv_iconst (v := 1) hx hb d_M_raised_40 (by decide) ?_
      refine cs_callv (va_runV (As := [.int 5, .int 1]) (rest := []) ⟨hx, hb, hml, hown, ha⟩ (c_M_copy l dC dI mx th sd nt ro pl vl f pa pr cL g_2 5 1 (by omega) (by omega) _) (cwV 2 ha g_M_M_copy rfl rfl rfl (by decide +kernel) ⟨Nat.le_trans (Nat.le_of_ble_eq_true rfl) hRf, Nat.le_trans (Nat.le_of_ble_eq_true rfl) hRl⟩) (ct_preV ct_G0ok trivial hK hP hD hS hA [0, 1] rfl (by decide) [0] rfl 0 4 rfl rfl rfl) rfl rfl hl.1 rfl (lv_room (Nat.le_of_ble_eq_true rfl)) d_M_raised_41 ⟨hRc, hRs⟩) hP hD hS hA [0, 1] rfl (by decide) (fun _ => rfl) (fun g_4 H locs hg_4 hP hD hS => ?_)
      have hP : va_P (dC, dI) cl9 [(mx, .inr (4, [.int th, .long sd, .int nt, .ref ro, .ref pl, .ref vl, .int (nI f), .ref pa, .ref pr])), (pa, .inl (cL, 240, .inr (.inl g_4))), (pr, .inl (cL, 48, .inr (.inl p_3)))] H := hP
      have hD : va_D A [(mx, .inr (4, [.int th, .long sd, .int nt, .ref ro, .ref pl, .ref vl, .int (nI f), .ref pa, .ref pr])), (pa, .inl (cL, 240, .inr (.inl g_4))), (pr, .inl (cL, 48, .inr (.inl p_3)))] := hD
      have hg_4 : g_4 = mr_cp 5 1 g_2 := hg_4.trans (ir_eq _).symm
      refine lv_aload_n hx hb d_M_raised_44 rfl (lv_at hl 0 rfl) ?_
      refine lv_iconst (v := 5) hx hb d_M_raised_45 (by decide) ?_
      refine lv_iload hx hb d_M_raised_46 (lv_at hl 1 rfl) ?_
      refine lv_i2l hx hb d_M_raised_48 rfl ?_
      refine cs_callv (va_runV (As := [.int 5, .long (((nI (3 + 2 * i)) : Int32).toInt64)]) (rest := []) ⟨hx, hb, hml, hown, ha⟩ (c_M_by l dC dI mx th sd nt ro pl vl f pa pr cL g_4 5 (nI (3 + 2 * i)).toInt64 (by omega) (md_q1 (by omega) (by omega)) _) (cwV 2 ha g_M_M_by rfl rfl rfl (by decide +kernel) ⟨Nat.le_trans (Nat.le_of_ble_eq_true rfl) hRf, Nat.le_trans (Nat.le_of_ble_eq_true rfl) hRl⟩) (ct_preV ct_G0ok trivial hK hP hD hS hA [0, 1] rfl (by decide) [0] rfl 0 4 rfl rfl rfl) rfl rfl hl.1 rfl (lv_room (Nat.le_of_ble_eq_true rfl)) d_M_raised_49 ⟨hRc, hRs⟩) hP hD hS hA [0, 1] rfl (by decide) (fun _ => rfl) (fun g_5 H locs hg_5 hP hD hS => ?_)
      have hP : va_P (dC, dI) cl9 [(mx, .inr (4, [.int th, .long sd, .int nt, .ref ro, .ref pl, .ref vl, .int (nI f), .ref pa, .ref pr])), (pa, .inl (cL, 240, .inr (.inl g_5))), (pr, .inl (cL, 48, .inr (.inl p_3)))] H := hP
      have hD : va_D A [(mx, .inr (4, [.int th, .long sd, .int nt, .ref ro, .ref pl, .ref vl, .int (nI f), .ref pa, .ref pr])), (pa, .inl (cL, 240, .inr (.inl g_5))), (pr, .inl (cL, 48, .inr (.inl p_3)))] := hD
      have hg_5 : g_5 = mr_by 5 (nI (3 + 2 * i)).toInt64 g_4 := hg_5.trans (ir_eq _).symm
      refine lv_aload_n hx hb d_M_raised_52 rfl (lv_at hl 0 rfl) ?_
      refine lv_iconst (v := 0) hx hb d_M_raised_53 (by decide) ?_
      refine lv_iconst (v := 5) hx hb d_M_raised_54 (by decide) ?_
      refine cs_callv (va_runV (As := [.int 0, .int 5]) (rest := []) ⟨hx, hb, hml, hown, ha⟩ (c_M_add l dC dI mx th sd nt ro pl vl f pa pr cL g_5 0 5 (by omega) (by omega) _) (cwV 2 ha g_M_M_add rfl rfl rfl (by decide +kernel) ⟨Nat.le_trans (Nat.le_of_ble_eq_true rfl) hRf, Nat.le_trans (Nat.le_of_ble_eq_true rfl) hRl⟩) (ct_preV ct_G0ok trivial hK hP hD hS hA [0, 1] rfl (by decide) [0] rfl 0 4 rfl rfl rfl) rfl rfl hl.1 rfl (lv_room (Nat.le_of_ble_eq_true rfl)) d_M_raised_55 ⟨hRc, hRs⟩) hP hD hS hA [0, 1] rfl (by decide) (fun _ => rfl) (fun g_6 H locs hg_6 hP hD hS => ?_)
      have hP : va_P (dC, dI) cl9 [(mx, .inr (4, [.int th, .long sd, .int nt, .ref ro, .ref pl, .ref vl, .int (nI f), .ref pa, .ref pr])), (pa, .inl (cL, 240, .inr (.inl g_6))), (pr, .inl (cL, 48, .inr (.inl p_3)))] H := hP
      have hD : va_D A [(mx, .inr (4, [.int th, .long sd, .int nt, .ref ro, .ref pl, .ref vl, .int (nI f), .ref pa, .ref pr])), (pa, .inl (cL, 240, .inr (.inl g_6))), (pr, .inl (cL, 48, .inr (.inl p_3)))] := hD
      have hg_6 : g_6 = mr_add 0 5 g_5 := hg_6.trans (ir_eq _).symm
      refine lv_iinc (v := (nI (3 + 2 * (i + 1)))) (lv' := [(5, .int (nI (3 + 2 * (i + 1)))), (0, .ref mx)]) hx hb d_M_raised_58 hl (k := 1) rfl (by exact md_inc2 (3 + 2 * i)) (by decide) rfl (fun ls hl => ?_)
      refine lv_goto (tgt := 23) hx hb d_M_raised_61 (by decide) ?_
      have e9 : ra_it f v q g p9 (i + 1) = (g_6, p_3) := by show ra_st f (nI (3 + 2 * i)) _ = _; rw [hg_6, hg_5, hg_4, hp_3, hg_2]; rfl
      exact ih (i + 1) (by omega) _ _ _ (by rw [e9]; exact hP) (by rw [e9]; exact hD) hS (lv_sub hl [1, 0] rfl)
set_option maxHeartbeats 4000000 in
set_option maxRecDepth 100000 in
/-- SUM becomes the logarithm of (q + v) / (q - v) -/
theorem c_M_raised (l : Launch) (dC : Nat → ClassId) (dI : Nat → Nat → Nat) (mx : Nat) (th : Int32) (sd : Int64) (nt : Int32) (ro : Nat) (pl : Nat) (vl : Nat) (f : Nat) (pa : Nat) (pr : Nat) (cL : ClassId) (g : Nat → Int64) (p9 : Nat → Int64) (v q : Int64) (hf9 : f ≤ 24) (hq : ¬ q = 0) (kk : Nat) (hkk : kk < 1000) (hk : ∀ i, i < kk → md_no 1 (ra_it f v q g p9 i).1 24 = 0) (hz : ¬ md_no 1 (ra_it f v q g p9 kk).1 24 = 0) (sz : Nat) : ct_V l y_M_raised w_M_raised { frames := 2, cells := 0, slots := 0, locals := 80 } (dC, dI) cl9 [(cL, .long)] ct_G0 [.ref mx, .long v, .long q] [(mx, .inr (4, [.int th, .long sd, .int nt, .ref ro, .ref pl, .ref vl, .int (nI f), .ref pa, .ref pr])), (pa, .inl (cL, 240, .inr (.inl g))), (pr, .inl (cL, 48, .inr (.inl p9)))] sz (S := S2) (fun u : S2 => u = ra_end (ra_it f v q g p9 kk)) (fun _ : S2 => [(cL, .long)]) (fun u : S2 => [(mx, .inr (4, [.int th, .long sd, .int nt, .ref ro, .ref pl, .ref vl, .int (nI f), .ref pa, .ref pr])), (pa, .inl (cL, 240, .inr (.inl u.1))), (pr, .inl (cL, 48, .inr (.inl u.2)))]) 0 0 := by
  refine ct_of (Qf := fun A => va_Qv (fun u : S2 => u = ra_end (ra_it f v q g p9 kk)) (ct_B (S := S2) (dC, dI) cl9 (fun _ : S2 => [(cL, .long)]) A (fun u : S2 => [(mx, .inr (4, [.int th, .long sd, .int nt, .ref ro, .ref pl, .ref vl, .int (nI f), .ref pa, .ref pr])), (pa, .inl (cL, 240, .inr (.inl u.1))), (pr, .inl (cL, 48, .inr (.inl u.2)))])) A) (cc := b_M_raised) (maxL := 6) (ret := none) (by decide) rfl (Nat.le_of_ble_eq_true rfl) ?_
  intro p e s m below meth c A ls hF hA hP hK hD hG hS hl
  obtain ⟨hx, hb, hr, hml, hts, hown, hlocks, hnm⟩ := id hF
  have hown : s.vm.findClass R_M = some m.cls := hown
  have ha : ∀ w ∈ al_M, w.before [.ref mx, .long v, .long q].toArray s = true := fun w h => hts w (List.mem_cons_of_mem _ h)
  have hl : lv_has ls 6 [(0, .ref mx), (1, .long v), (3, .long q)] := hl
  refine lv_aload_n hx hb d_M_raised_0 rfl (lv_at hl 0 rfl) ?_
  refine lv_iconst (v := 1) hx hb d_M_raised_1 (by decide) ?_
  refine lv_lload_n hx hb d_M_raised_2 rfl (lv_at hl 1 rfl) ?_
  refine lv_lload_n hx hb d_M_raised_3 rfl (lv_at hl 2 rfl) ?_
  refine cs_callv (va_runV (As := [.int 1, .long v, .long q]) (rest := []) ⟨hx, hb, hml, hown, ha⟩ (c_M_ratio l dC dI mx th sd nt ro pl vl f pa pr cL g 1 v q (by omega) hf9 hq _) (cwV 3 ha g_M_M_ratio rfl rfl rfl (by decide +kernel) ⟨Nat.le_of_ble_eq_true rfl, Nat.le_of_ble_eq_true rfl⟩) (ct_preV ct_G0ok trivial hK hP hD hS hA [0, 1] rfl (by decide) [0] rfl 0 4 rfl rfl rfl) rfl rfl hl.1 rfl (lv_room (Nat.le_of_ble_eq_true rfl)) d_M_raised_4 ⟨Nat.le_of_ble_eq_true rfl, Nat.le_of_ble_eq_true rfl⟩) hP hD hS hA [0, 1] rfl (by decide) (fun _ => rfl) (fun g_7 H locs hg_7 hP hD hS => ?_)
  have hP : va_P (dC, dI) cl9 [(mx, .inr (4, [.int th, .long sd, .int nt, .ref ro, .ref pl, .ref vl, .int (nI f), .ref pa, .ref pr])), (pa, .inl (cL, 240, .inr (.inl g_7))), (pr, .inl (cL, 48, .inr (.inl p9)))] H := hP
  have hD : va_D A [(mx, .inr (4, [.int th, .long sd, .int nt, .ref ro, .ref pl, .ref vl, .int (nI f), .ref pa, .ref pr])), (pa, .inl (cL, 240, .inr (.inl g_7))), (pr, .inl (cL, 48, .inr (.inl p9)))] := hD
  have hg_7 : g_7 = mr_by 1 q (mr_wh f 1 v g) := hg_7
  refine lv_aload_n hx hb d_M_raised_7 rfl (lv_at hl 0 rfl) ?_
  refine lv_iconst (v := 0) hx hb d_M_raised_8 (by decide) ?_
  refine lv_iconst (v := 1) hx hb d_M_raised_9 (by decide) ?_
  refine cs_callv (va_runV (As := [.int 0, .int 1]) (rest := []) ⟨hx, hb, hml, hown, ha⟩ (c_M_copy l dC dI mx th sd nt ro pl vl f pa pr cL g_7 0 1 (by omega) (by omega) _) (cwV 2 ha g_M_M_copy rfl rfl rfl (by decide +kernel) ⟨Nat.le_of_ble_eq_true rfl, Nat.le_of_ble_eq_true rfl⟩) (ct_preV ct_G0ok trivial hK hP hD hS hA [0, 1] rfl (by decide) [0] rfl 0 4 rfl rfl rfl) rfl rfl hl.1 rfl (lv_room (Nat.le_of_ble_eq_true rfl)) d_M_raised_10 ⟨Nat.le_of_ble_eq_true rfl, Nat.le_of_ble_eq_true rfl⟩) hP hD hS hA [0, 1] rfl (by decide) (fun _ => rfl) (fun g_8 H locs hg_8 hP hD hS => ?_)
  have hP : va_P (dC, dI) cl9 [(mx, .inr (4, [.int th, .long sd, .int nt, .ref ro, .ref pl, .ref vl, .int (nI f), .ref pa, .ref pr])), (pa, .inl (cL, 240, .inr (.inl g_8))), (pr, .inl (cL, 48, .inr (.inl p9)))] H := hP
  have hD : va_D A [(mx, .inr (4, [.int th, .long sd, .int nt, .ref ro, .ref pl, .ref vl, .int (nI f), .ref pa, .ref pr])), (pa, .inl (cL, 240, .inr (.inl g_8))), (pr, .inl (cL, 48, .inr (.inl p9)))] := hD
  have hg_8 : g_8 = mr_cp 0 1 g_7 := hg_8.trans (ir_eq _).symm
  refine lv_aload_n hx hb d_M_raised_13 rfl (lv_at hl 0 rfl) ?_
  refine lv_iconst (v := 2) hx hb d_M_raised_14 (by decide) ?_
  refine lv_iconst (v := 1) hx hb d_M_raised_15 (by decide) ?_
  refine lv_iconst (v := 1) hx hb d_M_raised_16 (by decide) ?_
  refine cs_callv (va_runV (As := [.int 2, .int 1, .int 1]) (rest := []) ⟨hx, hb, hml, hown, ha⟩ (c_M_multiply l dC dI mx th sd nt ro pl vl f pa pr cL g_8 p9 2 1 1 (by omega) (by omega) (by omega) hf9 _) (cwV 3 ha g_M_M_multiply rfl rfl rfl (by decide +kernel) ⟨Nat.le_of_ble_eq_true rfl, Nat.le_of_ble_eq_true rfl⟩) (ct_preV ct_G0ok trivial hK hP hD hS hA [0, 1, 2] rfl (by decide) [0] rfl 0 4 rfl rfl rfl) rfl rfl hl.1 rfl (lv_room (Nat.le_of_ble_eq_true rfl)) d_M_raised_17 ⟨Nat.le_of_ble_eq_true rfl, Nat.le_of_ble_eq_true rfl⟩) hP hD hS hA [0, 1, 2] rfl (by decide) (fun _ => rfl) (fun z_9 H locs hz_9 hP hD hS => ?_)
  have hP : va_P (dC, dI) cl9 [(mx, .inr (4, [.int th, .long sd, .int nt, .ref ro, .ref pl, .ref vl, .int (nI f), .ref pa, .ref pr])), (pa, .inl (cL, 240, .inr (.inl z_9.1))), (pr, .inl (cL, 48, .inr (.inl z_9.2)))] H := hP
  have hD : va_D A [(mx, .inr (4, [.int th, .long sd, .int nt, .ref ro, .ref pl, .ref vl, .int (nI f), .ref pa, .ref pr])), (pa, .inl (cL, 240, .inr (.inl z_9.1))), (pr, .inl (cL, 48, .inr (.inl z_9.2)))] := hD
  obtain ⟨g_10, p_11⟩ := z_9
  obtain ⟨hg_10, hp_11⟩ := hz_9
  have hg_10 : g_10 = mr_mul f 2 1 1 g_8 p9 := hg_10
  have hp_11 : p_11 = mr_mo 1 1 g_8 p9 := hp_11
  have hP : va_P (dC, dI) cl9 [(mx, .inr (4, [.int th, .long sd, .int nt, .ref ro, .ref pl, .ref vl, .int (nI f), .ref pa, .ref pr])), (pa, .inl (cL, 240, .inr (.inl g_10))), (pr, .inl (cL, 48, .inr (.inl p_11)))] H := hP
  have hD : va_D A [(mx, .inr (4, [.int th, .long sd, .int nt, .ref ro, .ref pl, .ref vl, .int (nI f), .ref pa, .ref pr])), (pa, .inl (cL, 240, .inr (.inl g_10))), (pr, .inl (cL, 48, .inr (.inl p_11)))] := hD
  refine lv_iconst (v := 3) hx hb d_M_raised_20 (by decide) ?_
  refine lv_istore (lv' := [(5, .int 3), (0, .ref mx), (1, .long v), (3, .long q)]) hx hb d_M_raised_21 hl (by decide) rfl (fun ls hl => ?_)
  have e9 : ra_it f v q g p9 0 = (g_10, p_11) := by rw [hp_11, hg_10, hg_8, hg_7]; rfl
  refine lp_M_raised (mx := mx) (th := th) (sd := sd) (nt := nt) (ro := ro) (pl := pl) (vl := vl) (f := f) (pa := pa) (pr := pr) (cL := cL) (g := g) (p9 := p9) (v := v) (q := q) hF hA hK (Nat.le_of_ble_eq_true rfl) (Nat.le_of_ble_eq_true rfl) (Nat.le_of_ble_eq_true rfl) (Nat.le_of_ble_eq_true rfl) hf9 hkk hk hz (fun H locs ls hP hD hS hl => ?_) kk 0 (by omega) _ _ _ (by rw [e9]; exact hP) (by rw [e9]; exact hD) hS (lv_sub hl [1, 0] rfl)
  refine lv_aload_n hx hb d_M_raised_64 rfl (lv_at hl 0 rfl) ?_
  refine lv_iconst (v := 0) hx hb d_M_raised_65 (by decide) ?_
  refine lv_ldc2 (v := 2) hx hb hown (ha _ wm_M_82) d_M_raised_66 ?_
  refine cs_callv (va_runV (As := [.int 0, .long 2]) (rest := []) ⟨hx, hb, hml, hown, ha⟩ (c_M_times l dC dI mx th sd nt ro pl vl f pa pr cL ((ra_it f v q g p9 kk).1) 0 2 (by omega) _) (cwV 2 ha g_M_M_times rfl rfl rfl (by decide +kernel) ⟨Nat.le_of_ble_eq_true rfl, Nat.le_of_ble_eq_true rfl⟩) (ct_preV ct_G0ok trivial hK hP hD hS hA [0, 1] rfl (by decide) [0] rfl 0 4 rfl rfl rfl) rfl rfl hl.1 rfl (lv_room (Nat.le_of_ble_eq_true rfl)) d_M_raised_69 ⟨Nat.le_of_ble_eq_true rfl, Nat.le_of_ble_eq_true rfl⟩) hP hD hS hA [0, 1] rfl (by decide) (fun _ => rfl) (fun g_12 H locs hg_12 hP hD hS => ?_)
  have hP : va_P (dC, dI) cl9 [(mx, .inr (4, [.int th, .long sd, .int nt, .ref ro, .ref pl, .ref vl, .int (nI f), .ref pa, .ref pr])), (pa, .inl (cL, 240, .inr (.inl g_12))), (pr, .inl (cL, 48, .inr (.inl ((ra_it f v q g p9 kk).2))))] H := hP
  have hD : va_D A [(mx, .inr (4, [.int th, .long sd, .int nt, .ref ro, .ref pl, .ref vl, .int (nI f), .ref pa, .ref pr])), (pa, .inl (cL, 240, .inr (.inl g_12))), (pr, .inl (cL, 48, .inr (.inl ((ra_it f v q g p9 kk).2))))] := hD
  have hg_12 : g_12 = mr_tim 0 2 ((ra_it f v q g p9 kk).1) := hg_12.trans (ir_eq _).symm
  exact ct_vret hF d_M_raised_72 (g_12, (ra_it f v q g p9 kk).2) (by rw [hg_12]; rfl) (hP.sub [0, 1, 2] rfl) (hD.sub [0, 1, 2] (by decide) rfl) hK hS
set_option maxHeartbeats 4000000 in
set_option maxRecDepth 100000 in
/-- angleOfOne's series -/
theorem lp_M_angleOfOne {p : Program} {l : Launch} {e : Env} {R : Room} {s : State} {m : MethodId} {args : Array Value} {below : List Frame} {meth : Method} {c : Code} {Q : State → Prop} {A : Nat → Prop} {cells slots : Nat} {dC : Nat → ClassId} {dI : Nat → Nat → Nat} {mx : Nat} {th : Int32} {sd : Int64} {nt : Int32} {ro : Nat} {pl : Nat} {vl : Nat} {f : Nat} {pa : Nat} {pr : Nat} {cL : ClassId} {g : Nat → Int64} {r : Nat} {n : Int64} {o : Int64} {kk : Nat} (hF : ct_F p s m meth c b_M_angleOfOne none 7 w_M_angleOfOne y_M_angleOfOne args) (hA : ∀ q, s.heap.size ≤ q → A q) (hK : va_K (dC, dI) cl9 [(cL, .long)] s) (hRf : 2 ≤ R.frames) (hRl : 80 ≤ R.locals) (hRc : cells ≤ R.cells) (hRs : slots ≤ R.slots) (hr9 : r < 10) (hnn : ¬ n * n = 0) (hkk : kk < 1000) (hk : ∀ i, i < kk → md_no 1 (ao_it f r n o g i) 24 = 0) (hz : ¬ md_no 1 (ao_it f r n o g kk) 24 = 0)
    (K : ∀ (H : Heap) (locs : List Loc) (ls : Array Slot), va_P (dC, dI) cl9 [(mx, .inr (4, [.int th, .long sd, .int nt, .ref ro, .ref pl, .ref vl, .int (nI f), .ref pa, .ref pr])), (pa, .inl (cL, 240, .inr (.inl (ao_it f r n o g kk))))] H → va_D A [(mx, .inr (4, [.int th, .long sd, .int nt, .ref ro, .ref pl, .ref vl, .int (nI f), .ref pa, .ref pr])), (pa, .inl (cL, 240, .inr (.inl (ao_it f r n o g kk))))] → va_S A s.heap H locs → lv_has ls 7 [(0, .ref mx), (1, .int (nI r)), (2, .long n), (6, .int (nI (3 + 2 * kk)))] → W p l e R s m args below meth c H locs cells slots Q (F0 m 76 ls [])) :
    ∀ (n9 i : Nat), i + n9 = kk → ∀ (H : Heap) (locs : List Loc) (ls : Array Slot), va_P (dC, dI) cl9 [(mx, .inr (4, [.int th, .long sd, .int nt, .ref ro, .ref pl, .ref vl, .int (nI f), .ref pa, .ref pr])), (pa, .inl (cL, 240, .inr (.inl (ao_it f r n o g i))))] H → va_D A [(mx, .inr (4, [.int th, .long sd, .int nt, .ref ro, .ref pl, .ref vl, .int (nI f), .ref pa, .ref pr])), (pa, .inl (cL, 240, .inr (.inl (ao_it f r n o g i))))] → va_S A s.heap H locs → lv_has ls 7 [(0, .ref mx), (1, .int (nI r)), (2, .long n), (6, .int (nI (3 + 2 * i)))] → W p l e R s m args below meth c H locs cells slots Q (F0 m 17 ls []) := by
  obtain ⟨hx, hb, hr, hml, hts, hown, hlocks, hnm⟩ := id hF
  have hown : s.vm.findClass R_M = some m.cls := hown
  have ha : ∀ w ∈ al_M, w.before args s = true := fun w h => hts w (List.mem_cons_of_mem _ h)
  intro n9
  induction n9 with
  | zero =>
    intro i hi H locs ls hP hD hS hl
    obtain rfl : kk = i := by omega
    refine lv_aload_n hx hb d_M_angleOfOne_17 rfl (lv_at hl 0 rfl) ?_
    refine lv_iconst (v := 1) hx hb d_M_angleOfOne_18 (by decide) ?_
    refine cs_calli (va_runV (As := [.int 1]) (rest := []) ⟨hx, hb, hml, hown, ha⟩ (c_M_isNothing l dC dI mx th sd nt ro pl vl f pa pr cL (ao_it f r n o g kk) 1 (by omega) _) (cwV 1 ha g_M_M_isNothing rfl rfl rfl (by decide +kernel) ⟨Nat.le_trans (Nat.le_of_ble_eq_true rfl) hRf, Nat.le_trans (Nat.le_of_ble_eq_true rfl) hRl⟩) (ct_preV ct_G0ok trivial hK hP hD hS hA [0, 1] rfl (by decide) [0] rfl 0 4 rfl rfl rfl) rfl rfl hl.1 rfl (lv_room (Nat.le_of_ble_eq_true rfl)) d_M_angleOfOne_19 ⟨hRc, hRs⟩) hP hD hS hA [0, 1] rfl (by decide) (fun _ => rfl) (fun r9 u7 H locs hq hP hD hS => ?_)
    have hP : va_P (dC, dI) cl9 [(mx, .inr (4, [.int th, .long sd, .int nt, .ref ro, .ref pl, .ref vl, .int (nI f), .ref pa, .ref pr])), (pa, .inl (cL, 240, .inr (.inl (ao_it f r n o g kk))))] H := hP
    have hD : va_D A [(mx, .inr (4, [.int th, .long sd, .int nt, .ref ro, .ref pl, .ref vl, .int (nI f), .ref pa, .ref pr])), (pa, .inl (cL, 240, .inr (.inl (ao_it f r n o g kk))))] := hD
    refine lv_if_ne (tgt := 76) hx hb d_M_angleOfOne_22 (by decide) (fun hc => ?_) (fun hc => ?_)
    · exact K _ _ _ hP hD hS (lv_sub hl [0, 1, 2, 3] rfl)
    · exact absurd (hq.symm.trans hc) hz
  | succ n9 ih =>
    intro i hi H locs ls hP hD hS hl
    have hlt : i < kk := by omega
    refine lv_aload_n hx hb d_M_angleOfOne_17 rfl (lv_at hl 0 rfl) ?_
    refine lv_iconst (v := 1) hx hb d_M_angleOfOne_18 (by decide) ?_
    refine cs_calli (va_runV (As := [.int 1]) (rest := []) ⟨hx, hb, hml, hown, ha⟩ (c_M_isNothing l dC dI mx th sd nt ro pl vl f pa pr cL (ao_it f r n o g i) 1 (by omega) _) (cwV 1 ha g_M_M_isNothing rfl rfl rfl (by decide +kernel) ⟨Nat.le_trans (Nat.le_of_ble_eq_true rfl) hRf, Nat.le_trans (Nat.le_of_ble_eq_true rfl) hRl⟩) (ct_preV ct_G0ok trivial hK hP hD hS hA [0, 1] rfl (by decide) [0] rfl 0 4 rfl rfl rfl) rfl rfl hl.1 rfl (lv_room (Nat.le_of_ble_eq_true rfl)) d_M_angleOfOne_19 ⟨hRc, hRs⟩) hP hD hS hA [0, 1] rfl (by decide) (fun _ => rfl) (fun r9 u7 H locs hq hP hD hS => ?_)
    have hP : va_P (dC, dI) cl9 [(mx, .inr (4, [.int th, .long sd, .int nt, .ref ro, .ref pl, .ref vl, .int (nI f), .ref pa, .ref pr])), (pa, .inl (cL, 240, .inr (.inl (ao_it f r n o g i))))] H := hP
    have hD : va_D A [(mx, .inr (4, [.int th, .long sd, .int nt, .ref ro, .ref pl, .ref vl, .int (nI f), .ref pa, .ref pr])), (pa, .inl (cL, 240, .inr (.inl (ao_it f r n o g i))))] := hD
    refine lv_if_ne (tgt := 76) hx hb d_M_angleOfOne_22 (by decide) (fun hc => ?_) (fun hc => ?_)
    · exact absurd (hq.trans (hk i hlt)) hc
    · refine lv_aload_n hx hb d_M_angleOfOne_25 rfl (lv_at hl 0 rfl) ?_
      refine lv_iconst (v := 1) hx hb d_M_angleOfOne_26 (by decide) ?_
      refine lv_lload_n hx hb d_M_angleOfOne_27 rfl (lv_at hl 2 rfl) ?_
      refine lv_lload_n hx hb d_M_angleOfOne_28 rfl (lv_at hl 2 rfl) ?_
      refine lv_lmul hx hb d_M_angleOfOne_29 ?_
      refine cs_callv (va_runV (As := [.int 1, .long (n * n)]) (rest := []) ⟨hx, hb, hml, hown, ha⟩ (c_M_by l dC dI mx th sd nt ro pl vl f pa pr cL (ao_it f r n o g i) 1 (n * n) (by omega) hnn _) (cwV 2 ha g_M_M_by rfl rfl rfl (by decide +kernel) ⟨Nat.le_trans (Nat.le_of_ble_eq_true rfl) hRf, Nat.le_trans (Nat.le_of_ble_eq_true rfl) hRl⟩) (ct_preV ct_G0ok trivial hK hP hD hS hA [0, 1] rfl (by decide) [0] rfl 0 4 rfl rfl rfl) rfl rfl hl.1 rfl (lv_room (Nat.le_of_ble_eq_true rfl)) d_M_angleOfOne_30 ⟨hRc, hRs⟩) hP hD hS hA [0, 1] rfl (by decide) (fun _ => rfl) (fun g_1 H locs hg_1 hP hD hS => ?_)
      have hP : va_P (dC, dI) cl9 [(mx, .inr (4, [.int th, .long sd, .int nt, .ref ro, .ref pl, .ref vl, .int (nI f), .ref pa, .ref pr])), (pa, .inl (cL, 240, .inr (.inl g_1)))] H := hP
      have hD : va_D A [(mx, .inr (4, [.int th, .long sd, .int nt, .ref ro, .ref pl, .ref vl, .int (nI f), .ref pa, .ref pr])), (pa, .inl (cL, 240, .inr (.inl g_1)))] := hD
      have hg_1 : g_1 = mr_by 1 (n * n) (ao_it f r n o g i) := hg_1.trans (ir_eq _).symm
      refine lv_aload_n hx hb d_M_angleOfOne_33 rfl (lv_at hl 0 rfl) ?_
      refine lv_iconst (v := 5) hx hb d_M_angleOfOne_34 (by decide) ?_
      refine lv_iconst (v := 1) hx hb d_M_angleOfOne_35 (by decide) ?_
      refine cs_callv (va_runV (As := [.int 5, .int 1]) (rest := []) ⟨hx, hb, hml, hown, ha⟩ (c_M_copy l dC dI mx th sd nt ro pl vl f pa pr cL g_1 5 1 (by omega) (by omega) _) (cwV 2 ha g_M_M_copy rfl rfl rfl (by decide +kernel) ⟨Nat.le_trans (Nat.le_of_ble_eq_true rfl) hRf, Nat.le_trans (Nat.le_of_ble_eq_true rfl) hRl⟩) (ct_preV ct_G0ok trivial hK hP hD hS hA [0, 1] rfl (by decide) [0] rfl 0 4 rfl rfl rfl) rfl rfl hl.1 rfl (lv_room (Nat.le_of_ble_eq_true rfl)) d_M_angleOfOne_36 ⟨hRc, hRs⟩) hP hD hS hA [0, 1] rfl (by decide) (fun _ => rfl) (fun g_2 H locs hg_2 hP hD hS => ?_)
      have hP : va_P (dC, dI) cl9 [(mx, .inr (4, [.int th, .long sd, .int nt, .ref ro, .ref pl, .ref vl, .int (nI f), .ref pa, .ref pr])), (pa, .inl (cL, 240, .inr (.inl g_2)))] H := hP
      have hD : va_D A [(mx, .inr (4, [.int th, .long sd, .int nt, .ref ro, .ref pl, .ref vl, .int (nI f), .ref pa, .ref pr])), (pa, .inl (cL, 240, .inr (.inl g_2)))] := hD
      have hg_2 : g_2 = mr_cp 5 1 g_1 := hg_2.trans (ir_eq _).symm
      refine lv_aload_n hx hb d_M_angleOfOne_39 rfl (lv_at hl 0 rfl) ?_
      refine lv_iconst (v := 5) hx hb d_M_angleOfOne_40 (by decide) ?_
      refine lv_iload hx hb d_M_angleOfOne_41 (lv_at hl 3 rfl) ?_
      refine lv_i2l hx hb d_M_angleOfOne_43 rfl ?_
      refine cs_callv (va_runV (As := [.int 5, .long (((nI (3 + 2 * i)) : Int32).toInt64)]) (rest := []) ⟨hx, hb, hml, hown, ha⟩ (c_M_by l dC dI mx th sd nt ro pl vl f pa pr cL g_2 5 (nI (3 + 2 * i)).toInt64 (by omega) (md_q1 (by omega) (by omega)) _) (cwV 2 ha g_M_M_by rfl rfl rfl (by decide +kernel) ⟨Nat.le_trans (Nat.le_of_ble_eq_true rfl) hRf, Nat.le_trans (Nat.le_of_ble_eq_true rfl) hRl⟩) (ct_preV ct_G0ok trivial hK hP hD hS hA [0, 1] rfl (by decide) [0] rfl 0 4 rfl rfl rfl) rfl rfl hl.1 rfl (lv_room (Nat.le_of_ble_eq_true rfl)) d_M_angleOfOne_44 ⟨hRc, hRs⟩) hP hD hS hA [0, 1] rfl (by decide) (fun _ => rfl) (fun g_3 H locs hg_3 hP hD hS => ?_)
      have hP : va_P (dC, dI) cl9 [(mx, .inr (4, [.int th, .long sd, .int nt, .ref ro, .ref pl, .ref vl, .int (nI f), .ref pa, .ref pr])), (pa, .inl (cL, 240, .inr (.inl g_3)))] H := hP
      have hD : va_D A [(mx, .inr (4, [.int th, .long sd, .int nt, .ref ro, .ref pl, .ref vl, .int (nI f), .ref pa, .ref pr])), (pa, .inl (cL, 240, .inr (.inl g_3)))] := hD
      have hg_3 : g_3 = mr_by 5 (nI (3 + 2 * i)).toInt64 g_2 := hg_3.trans (ir_eq _).symm
      refine lv_iload hx hb d_M_angleOfOne_47 (lv_at hl 3 rfl) ?_
      refine lv_iconst (v := 4) hx hb d_M_angleOfOne_49 (by decide) ?_
      refine lv_irem hx hb d_M_angleOfOne_50 (by decide) ?_
      refine lv_iconst (v := 3) hx hb d_M_angleOfOne_51 (by decide) ?_
      refine lv_icmp_ne (tgt := 64) hx hb d_M_angleOfOne_52 (by decide) (fun ho => ?_) (fun ho => ?_)
      · refine lv_aload_n hx hb d_M_angleOfOne_64 rfl (lv_at hl 0 rfl) ?_
        refine lv_iload_n hx hb d_M_angleOfOne_65 rfl (lv_at hl 1 rfl) ?_
        refine lv_iconst (v := 5) hx hb d_M_angleOfOne_66 (by decide) ?_
        refine cs_callv (va_runV (As := [.int (nI r), .int 5]) (rest := []) ⟨hx, hb, hml, hown, ha⟩ (c_M_add l dC dI mx th sd nt ro pl vl f pa pr cL g_3 r 5 hr9 (by omega) _) (cwV 2 ha g_M_M_add rfl rfl rfl (by decide +kernel) ⟨Nat.le_trans (Nat.le_of_ble_eq_true rfl) hRf, Nat.le_trans (Nat.le_of_ble_eq_true rfl) hRl⟩) (ct_preV ct_G0ok trivial hK hP hD hS hA [0, 1] rfl (by decide) [0] rfl 0 4 rfl rfl rfl) rfl rfl hl.1 rfl (lv_room (Nat.le_of_ble_eq_true rfl)) d_M_angleOfOne_67 ⟨hRc, hRs⟩) hP hD hS hA [0, 1] rfl (by decide) (fun _ => rfl) (fun g_4 H locs hg_4 hP hD hS => ?_)
        have hP : va_P (dC, dI) cl9 [(mx, .inr (4, [.int th, .long sd, .int nt, .ref ro, .ref pl, .ref vl, .int (nI f), .ref pa, .ref pr])), (pa, .inl (cL, 240, .inr (.inl g_4)))] H := hP
        have hD : va_D A [(mx, .inr (4, [.int th, .long sd, .int nt, .ref ro, .ref pl, .ref vl, .int (nI f), .ref pa, .ref pr])), (pa, .inl (cL, 240, .inr (.inl g_4)))] := hD
        have hg_4 : g_4 = mr_add r 5 g_3 := hg_4.trans (ir_eq _).symm
        refine lv_iinc (v := (nI (3 + 2 * (i + 1)))) (lv' := [(6, .int (nI (3 + 2 * (i + 1)))), (0, .ref mx), (1, .int (nI r)), (2, .long n)]) hx hb d_M_angleOfOne_70 hl (k := 3) rfl (by exact md_inc2 (3 + 2 * i)) (by decide) rfl (fun ls hl => ?_)
        refine lv_goto (tgt := 17) hx hb d_M_angleOfOne_73 (by decide) ?_
        have e9 : ao_it f r n o g (i + 1) = g_4 := by show ao_st r n (nI (3 + 2 * i)) _ = _; rw [hg_4, hg_3, hg_2, hg_1]; exact if_neg ho
        exact ih (i + 1) (by omega) _ _ _ (by rw [e9]; exact hP) (by rw [e9]; exact hD) hS (lv_sub hl [1, 2, 3, 0] rfl)
      · refine lv_aload_n hx hb d_M_angleOfOne_55 rfl (lv_at hl 0 rfl) ?_
        refine lv_iload_n hx hb d_M_angleOfOne_56 rfl (lv_at hl 1 rfl) ?_
        refine lv_iconst (v := 5) hx hb d_M_angleOfOne_57 (by decide) ?_
        refine cs_callv (va_runV (As := [.int (nI r), .int 5]) (rest := []) ⟨hx, hb, hml, hown, ha⟩ (c_M_less l dC dI mx th sd nt ro pl vl f pa pr cL g_3 r 5 hr9 (by omega) _) (cwV 2 ha g_M_M_less rfl rfl rfl (by decide +kernel) ⟨Nat.le_trans (Nat.le_of_ble_eq_true rfl) hRf, Nat.le_trans (Nat.le_of_ble_eq_true rfl) hRl⟩) (ct_preV ct_G0ok trivial hK hP hD hS hA [0, 1] rfl (by decide) [0] rfl 0 4 rfl rfl rfl) rfl rfl hl.1 rfl (lv_room (Nat.le_of_ble_eq_true rfl)) d_M_angleOfOne_58 ⟨hRc, hRs⟩) hP hD hS hA [0, 1] rfl (by decide) (fun _ => rfl) (fun g_5 H locs hg_5 hP hD hS => ?_)
        have hP : va_P (dC, dI) cl9 [(mx, .inr (4, [.int th, .long sd, .int nt, .ref ro, .ref pl, .ref vl, .int (nI f), .ref pa, .ref pr])), (pa, .inl (cL, 240, .inr (.inl g_5)))] H := hP
        have hD : va_D A [(mx, .inr (4, [.int th, .long sd, .int nt, .ref ro, .ref pl, .ref vl, .int (nI f), .ref pa, .ref pr])), (pa, .inl (cL, 240, .inr (.inl g_5)))] := hD
        have hg_5 : g_5 = mr_les r 5 g_3 := hg_5.trans (ir_eq _).symm
        refine lv_goto (tgt := 70) hx hb d_M_angleOfOne_61 (by decide) ?_
        refine lv_iinc (v := (nI (3 + 2 * (i + 1)))) (lv' := [(6, .int (nI (3 + 2 * (i + 1)))), (0, .ref mx), (1, .int (nI r)), (2, .long n)]) hx hb d_M_angleOfOne_70 hl (k := 3) rfl (by exact md_inc2 (3 + 2 * i)) (by decide) rfl (fun ls hl => ?_)
        refine lv_goto (tgt := 17) hx hb d_M_angleOfOne_73 (by decide) ?_
        have e9 : ao_it f r n o g (i + 1) = g_5 := by show ao_st r n (nI (3 + 2 * i)) _ = _; rw [hg_5, hg_3, hg_2, hg_1]; exact if_pos ho
        exact ih (i + 1) (by omega) _ _ _ (by rw [e9]; exact hP) (by rw [e9]; exact hD) hS (lv_sub hl [1, 2, 3, 0] rfl)
set_option maxHeartbeats 4000000 in
set_option maxRecDepth 100000 in
/-- register r becomes the angle of 1 to n, o times -/
theorem c_M_angleOfOne (l : Launch) (dC : Nat → ClassId) (dI : Nat → Nat → Nat) (mx : Nat) (th : Int32) (sd : Int64) (nt : Int32) (ro : Nat) (pl : Nat) (vl : Nat) (f : Nat) (pa : Nat) (pr : Nat) (cL : ClassId) (g : Nat → Int64) (r : Nat) (n o : Int64) (hr9 : r < 10) (hf9 : f ≤ 24) (hn0 : ¬ n = 0) (hnn : ¬ n * n = 0) (kk : Nat) (hkk : kk < 1000) (hk : ∀ i, i < kk → md_no 1 (ao_it f r n o g i) 24 = 0) (hz : ¬ md_no 1 (ao_it f r n o g kk) 24 = 0) (sz : Nat) : ct_V l y_M_angleOfOne w_M_angleOfOne { frames := 2, cells := 0, slots := 0, locals := 80 } (dC, dI) cl9 [(cL, .long)] ct_G0 [.ref mx, .int (nI r), .long n, .long o] [(mx, .inr (4, [.int th, .long sd, .int nt, .ref ro, .ref pl, .ref vl, .int (nI f), .ref pa, .ref pr])), (pa, .inl (cL, 240, .inr (.inl g)))] sz (S := Nat → Int64) (fun u : Nat → Int64 => u = ao_it f r n o g kk) (fun _ : Nat → Int64 => [(cL, .long)]) (fun u : Nat → Int64 => [(mx, .inr (4, [.int th, .long sd, .int nt, .ref ro, .ref pl, .ref vl, .int (nI f), .ref pa, .ref pr])), (pa, .inl (cL, 240, .inr (.inl u)))]) 0 0 := by
  refine ct_of (Qf := fun A => va_Qv (fun u : Nat → Int64 => u = ao_it f r n o g kk) (ct_B (S := Nat → Int64) (dC, dI) cl9 (fun _ : Nat → Int64 => [(cL, .long)]) A (fun u : Nat → Int64 => [(mx, .inr (4, [.int th, .long sd, .int nt, .ref ro, .ref pl, .ref vl, .int (nI f), .ref pa, .ref pr])), (pa, .inl (cL, 240, .inr (.inl u)))])) A) (cc := b_M_angleOfOne) (maxL := 7) (ret := none) (by decide) rfl (Nat.le_of_ble_eq_true rfl) ?_
  intro p e s m below meth c A ls hF hA hP hK hD hG hS hl
  obtain ⟨hx, hb, hr, hml, hts, hown, hlocks, hnm⟩ := id hF
  have hown : s.vm.findClass R_M = some m.cls := hown
  have ha : ∀ w ∈ al_M, w.before [.ref mx, .int (nI r), .long n, .long o].toArray s = true := fun w h => hts w (List.mem_cons_of_mem _ h)
  have hl : lv_has ls 7 [(0, .ref mx), (1, .int (nI r)), (2, .long n), (4, .long o)] := hl
  refine lv_aload_n hx hb d_M_angleOfOne_0 rfl (lv_at hl 0 rfl) ?_
  refine lv_iconst (v := 1) hx hb d_M_angleOfOne_1 (by decide) ?_
  refine lv_lload hx hb d_M_angleOfOne_2 (lv_at hl 3 rfl) ?_
  refine lv_lload_n hx hb d_M_angleOfOne_4 rfl (lv_at hl 2 rfl) ?_
  refine cs_callv (va_runV (As := [.int 1, .long o, .long n]) (rest := []) ⟨hx, hb, hml, hown, ha⟩ (c_M_ratio l dC dI mx th sd nt ro pl vl f pa pr cL g 1 o n (by omega) hf9 hn0 _) (cwV 3 ha g_M_M_ratio rfl rfl rfl (by decide +kernel) ⟨Nat.le_of_ble_eq_true rfl, Nat.le_of_ble_eq_true rfl⟩) (ct_preV ct_G0ok trivial hK hP hD hS hA [0, 1] rfl (by decide) [0] rfl 0 4 rfl rfl rfl) rfl rfl hl.1 rfl (lv_room (Nat.le_of_ble_eq_true rfl)) d_M_angleOfOne_5 ⟨Nat.le_of_ble_eq_true rfl, Nat.le_of_ble_eq_true rfl⟩) hP hD hS hA [0, 1] rfl (by decide) (fun _ => rfl) (fun g_6 H locs hg_6 hP hD hS => ?_)
  have hP : va_P (dC, dI) cl9 [(mx, .inr (4, [.int th, .long sd, .int nt, .ref ro, .ref pl, .ref vl, .int (nI f), .ref pa, .ref pr])), (pa, .inl (cL, 240, .inr (.inl g_6)))] H := hP
  have hD : va_D A [(mx, .inr (4, [.int th, .long sd, .int nt, .ref ro, .ref pl, .ref vl, .int (nI f), .ref pa, .ref pr])), (pa, .inl (cL, 240, .inr (.inl g_6)))] := hD
  have hg_6 : g_6 = mr_by 1 n (mr_wh f 1 o g) := hg_6
  refine lv_aload_n hx hb d_M_angleOfOne_8 rfl (lv_at hl 0 rfl) ?_
  refine lv_iload_n hx hb d_M_angleOfOne_9 rfl (lv_at hl 1 rfl) ?_
  refine lv_iconst (v := 1) hx hb d_M_angleOfOne_10 (by decide) ?_
  refine cs_callv (va_runV (As := [.int (nI r), .int 1]) (rest := []) ⟨hx, hb, hml, hown, ha⟩ (c_M_copy l dC dI mx th sd nt ro pl vl f pa pr cL g_6 r 1 hr9 (by omega) _) (cwV 2 ha g_M_M_copy rfl rfl rfl (by decide +kernel) ⟨Nat.le_of_ble_eq_true rfl, Nat.le_of_ble_eq_true rfl⟩) (ct_preV ct_G0ok trivial hK hP hD hS hA [0, 1] rfl (by decide) [0] rfl 0 4 rfl rfl rfl) rfl rfl hl.1 rfl (lv_room (Nat.le_of_ble_eq_true rfl)) d_M_angleOfOne_11 ⟨Nat.le_of_ble_eq_true rfl, Nat.le_of_ble_eq_true rfl⟩) hP hD hS hA [0, 1] rfl (by decide) (fun _ => rfl) (fun g_7 H locs hg_7 hP hD hS => ?_)
  have hP : va_P (dC, dI) cl9 [(mx, .inr (4, [.int th, .long sd, .int nt, .ref ro, .ref pl, .ref vl, .int (nI f), .ref pa, .ref pr])), (pa, .inl (cL, 240, .inr (.inl g_7)))] H := hP
  have hD : va_D A [(mx, .inr (4, [.int th, .long sd, .int nt, .ref ro, .ref pl, .ref vl, .int (nI f), .ref pa, .ref pr])), (pa, .inl (cL, 240, .inr (.inl g_7)))] := hD
  have hg_7 : g_7 = mr_cp r 1 g_6 := hg_7.trans (ir_eq _).symm
  refine lv_iconst (v := 3) hx hb d_M_angleOfOne_14 (by decide) ?_
  refine lv_istore (lv' := [(6, .int 3), (0, .ref mx), (1, .int (nI r)), (2, .long n), (4, .long o)]) hx hb d_M_angleOfOne_15 hl (by decide) rfl (fun ls hl => ?_)
  have e9 : ao_it f r n o g 0 = g_7 := by rw [hg_7, hg_6]; rfl
  refine lp_M_angleOfOne (mx := mx) (th := th) (sd := sd) (nt := nt) (ro := ro) (pl := pl) (vl := vl) (f := f) (pa := pa) (pr := pr) (cL := cL) (g := g) (r := r) (n := n) (o := o) hF hA hK (Nat.le_of_ble_eq_true rfl) (Nat.le_of_ble_eq_true rfl) (Nat.le_of_ble_eq_true rfl) (Nat.le_of_ble_eq_true rfl) hr9 hnn hkk hk hz (fun H locs ls hP hD hS hl => ?_) kk 0 (by omega) _ _ _ (by rw [e9]; exact hP) (by rw [e9]; exact hD) hS (lv_sub hl [1, 2, 3, 0] rfl)
  exact ct_vret hF d_M_angleOfOne_76 (ao_it f r n o g kk) rfl (hP.sub [0, 1] rfl) (hD.sub [0, 1] (by decide) rfl) hK hS
set_option maxHeartbeats 4000000 in
set_option maxRecDepth 100000 in
/-- angleOf's series -/
theorem lp_M_angleOf {p : Program} {l : Launch} {e : Env} {R : Room} {s : State} {m : MethodId} {args : Array Value} {below : List Frame} {meth : Method} {c : Code} {Q : State → Prop} {A : Nat → Prop} {cells slots : Nat} {dC : Nat → ClassId} {dI : Nat → Nat → Nat} {mx : Nat} {th : Int32} {sd : Int64} {nt : Int32} {ro : Nat} {pl : Nat} {vl : Nat} {f : Nat} {pa : Nat} {pr : Nat} {cL : ClassId} {g : Nat → Int64} {a : Int64} {b : Int64} {kk : Nat} (hF : ct_F p s m meth c b_M_angleOf none 8 w_M_angleOf y_M_angleOf args) (hA : ∀ q, s.heap.size ≤ q → A q) (hK : va_K (dC, dI) cl9 [(cL, .long)] s) (hRf : 2 ≤ R.frames) (hRl : 80 ≤ R.locals) (hRc : cells ≤ R.cells) (hRs : slots ≤ R.slots) (hal : ¬ ((a * a) + (b * b)) = 0) (hkk : kk < 1000) (hk : ∀ i, i < kk → md_no 1 (an_it f a b g i) 24 = 0) (hz : ¬ md_no 1 (an_it f a b g kk) 24 = 0)
    (K : ∀ (H : Heap) (locs : List Loc) (ls : Array Slot), va_P (dC, dI) cl9 [(mx, .inr (4, [.int th, .long sd, .int nt, .ref ro, .ref pl, .ref vl, .int (nI f), .ref pa, .ref pr])), (pa, .inl (cL, 240, .inr (.inl (an_it f a b g kk))))] H → va_D A [(mx, .inr (4, [.int th, .long sd, .int nt, .ref ro, .ref pl, .ref vl, .int (nI f), .ref pa, .ref pr])), (pa, .inl (cL, 240, .inr (.inl (an_it f a b g kk))))] → va_S A s.heap H locs → lv_has ls 8 [(0, .ref mx), (1, .long a), (5, .long ((a * a) + (b * b))), (7, .int (nI (kk + 1)))] → W p l e R s m args below meth c H locs cells slots Q (F0 m 89 ls [])) :
    ∀ (n9 i : Nat), i + n9 = kk → ∀ (H : Heap) (locs : List Loc) (ls : Array Slot), va_P (dC, dI) cl9 [(mx, .inr (4, [.int th, .long sd, .int nt, .ref ro, .ref pl, .ref vl, .int (nI f), .ref pa, .ref pr])), (pa, .inl (cL, 240, .inr (.inl (an_it f a b g i))))] H → va_D A [(mx, .inr (4, [.int th, .long sd, .int nt, .ref ro, .ref pl, .ref vl, .int (nI f), .ref pa, .ref pr])), (pa, .inl (cL, 240, .inr (.inl (an_it f a b g i))))] → va_S A s.heap H locs → lv_has ls 8 [(0, .ref mx), (1, .long a), (5, .long ((a * a) + (b * b))), (7, .int (nI (i + 1)))] → W p l e R s m args below meth c H locs cells slots Q (F0 m 28 ls []) := by
  obtain ⟨hx, hb, hr, hml, hts, hown, hlocks, hnm⟩ := id hF
  have hown : s.vm.findClass R_M = some m.cls := hown
  have ha : ∀ w ∈ al_M, w.before args s = true := fun w h => hts w (List.mem_cons_of_mem _ h)
  intro n9
  induction n9 with
  | zero =>
    intro i hi H locs ls hP hD hS hl
    obtain rfl : kk = i := by omega
    refine lv_aload_n hx hb d_M_angleOf_28 rfl (lv_at hl 0 rfl) ?_
    refine lv_iconst (v := 1) hx hb d_M_angleOf_29 (by decide) ?_
    refine cs_calli (va_runV (As := [.int 1]) (rest := []) ⟨hx, hb, hml, hown, ha⟩ (c_M_isNothing l dC dI mx th sd nt ro pl vl f pa pr cL (an_it f a b g kk) 1 (by omega) _) (cwV 1 ha g_M_M_isNothing rfl rfl rfl (by decide +kernel) ⟨Nat.le_trans (Nat.le_of_ble_eq_true rfl) hRf, Nat.le_trans (Nat.le_of_ble_eq_true rfl) hRl⟩) (ct_preV ct_G0ok trivial hK hP hD hS hA [0, 1] rfl (by decide) [0] rfl 0 4 rfl rfl rfl) rfl rfl hl.1 rfl (lv_room (Nat.le_of_ble_eq_true rfl)) d_M_angleOf_30 ⟨hRc, hRs⟩) hP hD hS hA [0, 1] rfl (by decide) (fun _ => rfl) (fun r9 u7 H locs hq hP hD hS => ?_)
    have hP : va_P (dC, dI) cl9 [(mx, .inr (4, [.int th, .long sd, .int nt, .ref ro, .ref pl, .ref vl, .int (nI f), .ref pa, .ref pr])), (pa, .inl (cL, 240, .inr (.inl (an_it f a b g kk))))] H := hP
    have hD : va_D A [(mx, .inr (4, [.int th, .long sd, .int nt, .ref ro, .ref pl, .ref vl, .int (nI f), .ref pa, .ref pr])), (pa, .inl (cL, 240, .inr (.inl (an_it f a b g kk))))] := hD
    refine lv_if_ne (tgt := 89) hx hb d_M_angleOf_33 (by decide) (fun hc => ?_) (fun hc => ?_)
    · exact K _ _ _ hP hD hS (lv_sub hl [0, 1, 2, 3] rfl)
    · exact absurd (hq.symm.trans hc) hz
  | succ n9 ih =>
    intro i hi H locs ls hP hD hS hl
    have hlt : i < kk := by omega
    refine lv_aload_n hx hb d_M_angleOf_28 rfl (lv_at hl 0 rfl) ?_
    refine lv_iconst (v := 1) hx hb d_M_angleOf_29 (by decide) ?_
    refine cs_calli (va_runV (As := [.int 1]) (rest := []) ⟨hx, hb, hml, hown, ha⟩ (c_M_isNothing l dC dI mx th sd nt ro pl vl f pa pr cL (an_it f a b g i) 1 (by omega) _) (cwV 1 ha g_M_M_isNothing rfl rfl rfl (by decide +kernel) ⟨Nat.le_trans (Nat.le_of_ble_eq_true rfl) hRf, Nat.le_trans (Nat.le_of_ble_eq_true rfl) hRl⟩) (ct_preV ct_G0ok trivial hK hP hD hS hA [0, 1] rfl (by decide) [0] rfl 0 4 rfl rfl rfl) rfl rfl hl.1 rfl (lv_room (Nat.le_of_ble_eq_true rfl)) d_M_angleOf_30 ⟨hRc, hRs⟩) hP hD hS hA [0, 1] rfl (by decide) (fun _ => rfl) (fun r9 u7 H locs hq hP hD hS => ?_)
    have hP : va_P (dC, dI) cl9 [(mx, .inr (4, [.int th, .long sd, .int nt, .ref ro, .ref pl, .ref vl, .int (nI f), .ref pa, .ref pr])), (pa, .inl (cL, 240, .inr (.inl (an_it f a b g i))))] H := hP
    have hD : va_D A [(mx, .inr (4, [.int th, .long sd, .int nt, .ref ro, .ref pl, .ref vl, .int (nI f), .ref pa, .ref pr])), (pa, .inl (cL, 240, .inr (.inl (an_it f a b g i))))] := hD
    refine lv_if_ne (tgt := 89) hx hb d_M_angleOf_33 (by decide) (fun hc => ?_) (fun hc => ?_)
    · exact absurd (hq.trans (hk i hlt)) hc
    · refine lv_aload_n hx hb d_M_angleOf_36 rfl (lv_at hl 0 rfl) ?_
      refine lv_iconst (v := 1) hx hb d_M_angleOf_37 (by decide) ?_
      refine lv_lload_n hx hb d_M_angleOf_38 rfl (lv_at hl 1 rfl) ?_
      refine lv_lload_n hx hb d_M_angleOf_39 rfl (lv_at hl 1 rfl) ?_
      refine lv_lmul hx hb d_M_angleOf_40 ?_
      refine cs_callv (va_runV (As := [.int 1, .long (a * a)]) (rest := []) ⟨hx, hb, hml, hown, ha⟩ (c_M_times l dC dI mx th sd nt ro pl vl f pa pr cL (an_it f a b g i) 1 (a * a) (by omega) _) (cwV 2 ha g_M_M_times rfl rfl rfl (by decide +kernel) ⟨Nat.le_trans (Nat.le_of_ble_eq_true rfl) hRf, Nat.le_trans (Nat.le_of_ble_eq_true rfl) hRl⟩) (ct_preV ct_G0ok trivial hK hP hD hS hA [0, 1] rfl (by decide) [0] rfl 0 4 rfl rfl rfl) rfl rfl hl.1 rfl (lv_room (Nat.le_of_ble_eq_true rfl)) d_M_angleOf_41 ⟨hRc, hRs⟩) hP hD hS hA [0, 1] rfl (by decide) (fun _ => rfl) (fun g_1 H locs hg_1 hP hD hS => ?_)
      have hP : va_P (dC, dI) cl9 [(mx, .inr (4, [.int th, .long sd, .int nt, .ref ro, .ref pl, .ref vl, .int (nI f), .ref pa, .ref pr])), (pa, .inl (cL, 240, .inr (.inl g_1)))] H := hP
      have hD : va_D A [(mx, .inr (4, [.int th, .long sd, .int nt, .ref ro, .ref pl, .ref vl, .int (nI f), .ref pa, .ref pr])), (pa, .inl (cL, 240, .inr (.inl g_1)))] := hD
      have hg_1 : g_1 = mr_tim 1 (a * a) (an_it f a b g i) := hg_1.trans (ir_eq _).symm
      refine lv_aload_n hx hb d_M_angleOf_44 rfl (lv_at hl 0 rfl) ?_
      refine lv_iconst (v := 1) hx hb d_M_angleOf_45 (by decide) ?_
      refine lv_lload hx hb d_M_angleOf_46 (lv_at hl 2 rfl) ?_
      refine cs_callv (va_runV (As := [.int 1, .long ((a * a) + (b * b))]) (rest := []) ⟨hx, hb, hml, hown, ha⟩ (c_M_by l dC dI mx th sd nt ro pl vl f pa pr cL g_1 1 ((a * a) + (b * b)) (by omega) hal _) (cwV 2 ha g_M_M_by rfl rfl rfl (by decide +kernel) ⟨Nat.le_trans (Nat.le_of_ble_eq_true rfl) hRf, Nat.le_trans (Nat.le_of_ble_eq_true rfl) hRl⟩) (ct_preV ct_G0ok trivial hK hP hD hS hA [0, 1] rfl (by decide) [0] rfl 0 4 rfl rfl rfl) rfl rfl hl.1 rfl (lv_room (Nat.le_of_ble_eq_true rfl)) d_M_angleOf_48 ⟨hRc, hRs⟩) hP hD hS hA [0, 1] rfl (by decide) (fun _ => rfl) (fun g_2 H locs hg_2 hP hD hS => ?_)
      have hP : va_P (dC, dI) cl9 [(mx, .inr (4, [.int th, .long sd, .int nt, .ref ro, .ref pl, .ref vl, .int (nI f), .ref pa, .ref pr])), (pa, .inl (cL, 240, .inr (.inl g_2)))] H := hP
      have hD : va_D A [(mx, .inr (4, [.int th, .long sd, .int nt, .ref ro, .ref pl, .ref vl, .int (nI f), .ref pa, .ref pr])), (pa, .inl (cL, 240, .inr (.inl g_2)))] := hD
      have hg_2 : g_2 = mr_by 1 ((a * a) + (b * b)) g_1 := hg_2.trans (ir_eq _).symm
      refine lv_aload_n hx hb d_M_angleOf_51 rfl (lv_at hl 0 rfl) ?_
      refine lv_iconst (v := 1) hx hb d_M_angleOf_52 (by decide) ?_
      refine lv_ldc2 (v := 2) hx hb hown (ha _ wm_M_82) d_M_angleOf_53 ?_
      refine lv_iload hx hb d_M_angleOf_56 (lv_at hl 3 rfl) ?_
      refine lv_i2l hx hb d_M_angleOf_58 rfl ?_
      refine lv_lmul hx hb d_M_angleOf_59 ?_
      refine cs_callv (va_runV (As := [.int 1, .long (2 * (((nI (i + 1)) : Int32).toInt64))]) (rest := []) ⟨hx, hb, hml, hown, ha⟩ (c_M_times l dC dI mx th sd nt ro pl vl f pa pr cL g_2 1 (2 * (nI (i + 1)).toInt64) (by omega) _) (cwV 2 ha g_M_M_times rfl rfl rfl (by decide +kernel) ⟨Nat.le_trans (Nat.le_of_ble_eq_true rfl) hRf, Nat.le_trans (Nat.le_of_ble_eq_true rfl) hRl⟩) (ct_preV ct_G0ok trivial hK hP hD hS hA [0, 1] rfl (by decide) [0] rfl 0 4 rfl rfl rfl) rfl rfl hl.1 rfl (lv_room (Nat.le_of_ble_eq_true rfl)) d_M_angleOf_60 ⟨hRc, hRs⟩) hP hD hS hA [0, 1] rfl (by decide) (fun _ => rfl) (fun g_3 H locs hg_3 hP hD hS => ?_)
      have hP : va_P (dC, dI) cl9 [(mx, .inr (4, [.int th, .long sd, .int nt, .ref ro, .ref pl, .ref vl, .int (nI f), .ref pa, .ref pr])), (pa, .inl (cL, 240, .inr (.inl g_3)))] H := hP
      have hD : va_D A [(mx, .inr (4, [.int th, .long sd, .int nt, .ref ro, .ref pl, .ref vl, .int (nI f), .ref pa, .ref pr])), (pa, .inl (cL, 240, .inr (.inl g_3)))] := hD
      have hg_3 : g_3 = mr_tim 1 (2 * (nI (i + 1)).toInt64) g_2 := hg_3.trans (ir_eq _).symm
      refine lv_aload_n hx hb d_M_angleOf_63 rfl (lv_at hl 0 rfl) ?_
      refine lv_iconst (v := 1) hx hb d_M_angleOf_64 (by decide) ?_
      refine lv_ldc2 (v := 2) hx hb hown (ha _ wm_M_82) d_M_angleOf_65 ?_
      refine lv_iload hx hb d_M_angleOf_68 (lv_at hl 3 rfl) ?_
      refine lv_i2l hx hb d_M_angleOf_70 rfl ?_
      refine lv_lmul hx hb d_M_angleOf_71 ?_
      refine lv_lconst (v := 1) hx hb d_M_angleOf_72 (by decide) ?_
      refine lv_ladd hx hb d_M_angleOf_73 ?_
      refine cs_callv (va_runV (As := [.int 1, .long ((2 * (((nI (i + 1)) : Int32).toInt64)) + 1)]) (rest := []) ⟨hx, hb, hml, hown, ha⟩ (c_M_by l dC dI mx th sd nt ro pl vl f pa pr cL g_3 1 (2 * (nI (i + 1)).toInt64 + 1) (by omega) (md_q2 (by omega)) _) (cwV 2 ha g_M_M_by rfl rfl rfl (by decide +kernel) ⟨Nat.le_trans (Nat.le_of_ble_eq_true rfl) hRf, Nat.le_trans (Nat.le_of_ble_eq_true rfl) hRl⟩) (ct_preV ct_G0ok trivial hK hP hD hS hA [0, 1] rfl (by decide) [0] rfl 0 4 rfl rfl rfl) rfl rfl hl.1 rfl (lv_room (Nat.le_of_ble_eq_true rfl)) d_M_angleOf_74 ⟨hRc, hRs⟩) hP hD hS hA [0, 1] rfl (by decide) (fun _ => rfl) (fun g_4 H locs hg_4 hP hD hS => ?_)
      have hP : va_P (dC, dI) cl9 [(mx, .inr (4, [.int th, .long sd, .int nt, .ref ro, .ref pl, .ref vl, .int (nI f), .ref pa, .ref pr])), (pa, .inl (cL, 240, .inr (.inl g_4)))] H := hP
      have hD : va_D A [(mx, .inr (4, [.int th, .long sd, .int nt, .ref ro, .ref pl, .ref vl, .int (nI f), .ref pa, .ref pr])), (pa, .inl (cL, 240, .inr (.inl g_4)))] := hD
      have hg_4 : g_4 = mr_by 1 (2 * (nI (i + 1)).toInt64 + 1) g_3 := hg_4.trans (ir_eq _).symm
      refine lv_aload_n hx hb d_M_angleOf_77 rfl (lv_at hl 0 rfl) ?_
      refine lv_iconst (v := 0) hx hb d_M_angleOf_78 (by decide) ?_
      refine lv_iconst (v := 1) hx hb d_M_angleOf_79 (by decide) ?_
      refine cs_callv (va_runV (As := [.int 0, .int 1]) (rest := []) ⟨hx, hb, hml, hown, ha⟩ (c_M_add l dC dI mx th sd nt ro pl vl f pa pr cL g_4 0 1 (by omega) (by omega) _) (cwV 2 ha g_M_M_add rfl rfl rfl (by decide +kernel) ⟨Nat.le_trans (Nat.le_of_ble_eq_true rfl) hRf, Nat.le_trans (Nat.le_of_ble_eq_true rfl) hRl⟩) (ct_preV ct_G0ok trivial hK hP hD hS hA [0, 1] rfl (by decide) [0] rfl 0 4 rfl rfl rfl) rfl rfl hl.1 rfl (lv_room (Nat.le_of_ble_eq_true rfl)) d_M_angleOf_80 ⟨hRc, hRs⟩) hP hD hS hA [0, 1] rfl (by decide) (fun _ => rfl) (fun g_5 H locs hg_5 hP hD hS => ?_)
      have hP : va_P (dC, dI) cl9 [(mx, .inr (4, [.int th, .long sd, .int nt, .ref ro, .ref pl, .ref vl, .int (nI f), .ref pa, .ref pr])), (pa, .inl (cL, 240, .inr (.inl g_5)))] H := hP
      have hD : va_D A [(mx, .inr (4, [.int th, .long sd, .int nt, .ref ro, .ref pl, .ref vl, .int (nI f), .ref pa, .ref pr])), (pa, .inl (cL, 240, .inr (.inl g_5)))] := hD
      have hg_5 : g_5 = mr_add 0 1 g_4 := hg_5.trans (ir_eq _).symm
      refine lv_iinc (v := (nI (i + 1 + 1))) (lv' := [(7, .int (nI (i + 1 + 1))), (0, .ref mx), (1, .long a), (5, .long ((a * a) + (b * b)))]) hx hb d_M_angleOf_83 hl (k := 3) rfl (by exact nI_1 (i + 1)) (by decide) rfl (fun ls hl => ?_)
      refine lv_goto (tgt := 28) hx hb d_M_angleOf_86 (by decide) ?_
      have e9 : an_it f a b g (i + 1) = g_5 := by show an_st a ((a * a) + (b * b)) (nI (i + 1)) _ = _; rw [hg_5, hg_4, hg_3, hg_2, hg_1]; rfl
      exact ih (i + 1) (by omega) _ _ _ (by rw [e9]; exact hP) (by rw [e9]; exact hD) hS (lv_sub hl [1, 2, 3, 0] rfl)
set_option maxHeartbeats 4000000 in
set_option maxRecDepth 100000 in
/-- SUM becomes the angle of a to b -/
theorem c_M_angleOf (l : Launch) (dC : Nat → ClassId) (dI : Nat → Nat → Nat) (mx : Nat) (th : Int32) (sd : Int64) (nt : Int32) (ro : Nat) (pl : Nat) (vl : Nat) (f : Nat) (pa : Nat) (pr : Nat) (cL : ClassId) (g : Nat → Int64) (a b : Int64) (hf9 : f ≤ 24) (hal : ¬ ((a * a) + (b * b)) = 0) (kk : Nat) (hkk : kk < 1000) (hk : ∀ i, i < kk → md_no 1 (an_it f a b g i) 24 = 0) (hz : ¬ md_no 1 (an_it f a b g kk) 24 = 0) (sz : Nat) : ct_V l y_M_angleOf w_M_angleOf { frames := 2, cells := 0, slots := 0, locals := 80 } (dC, dI) cl9 [(cL, .long)] ct_G0 [.ref mx, .long a, .long b] [(mx, .inr (4, [.int th, .long sd, .int nt, .ref ro, .ref pl, .ref vl, .int (nI f), .ref pa, .ref pr])), (pa, .inl (cL, 240, .inr (.inl g)))] sz (S := Nat → Int64) (fun u : Nat → Int64 => u = an_it f a b g kk) (fun _ : Nat → Int64 => [(cL, .long)]) (fun u : Nat → Int64 => [(mx, .inr (4, [.int th, .long sd, .int nt, .ref ro, .ref pl, .ref vl, .int (nI f), .ref pa, .ref pr])), (pa, .inl (cL, 240, .inr (.inl u)))]) 0 0 := by
  refine ct_of (Qf := fun A => va_Qv (fun u : Nat → Int64 => u = an_it f a b g kk) (ct_B (S := Nat → Int64) (dC, dI) cl9 (fun _ : Nat → Int64 => [(cL, .long)]) A (fun u : Nat → Int64 => [(mx, .inr (4, [.int th, .long sd, .int nt, .ref ro, .ref pl, .ref vl, .int (nI f), .ref pa, .ref pr])), (pa, .inl (cL, 240, .inr (.inl u)))])) A) (cc := b_M_angleOf) (maxL := 8) (ret := none) (by decide) rfl (Nat.le_of_ble_eq_true rfl) ?_
  intro p e s m below meth c A ls hF hA hP hK hD hG hS hl
  obtain ⟨hx, hb, hr, hml, hts, hown, hlocks, hnm⟩ := id hF
  have hown : s.vm.findClass R_M = some m.cls := hown
  have ha : ∀ w ∈ al_M, w.before [.ref mx, .long a, .long b].toArray s = true := fun w h => hts w (List.mem_cons_of_mem _ h)
  have hl : lv_has ls 8 [(0, .ref mx), (1, .long a), (3, .long b)] := hl
  refine lv_lload_n hx hb d_M_angleOf_0 rfl (lv_at hl 1 rfl) ?_
  refine lv_lload_n hx hb d_M_angleOf_1 rfl (lv_at hl 1 rfl) ?_
  refine lv_lmul hx hb d_M_angleOf_2 ?_
  refine lv_lload_n hx hb d_M_angleOf_3 rfl (lv_at hl 2 rfl) ?_
  refine lv_lload_n hx hb d_M_angleOf_4 rfl (lv_at hl 2 rfl) ?_
  refine lv_lmul hx hb d_M_angleOf_5 ?_
  refine lv_ladd hx hb d_M_angleOf_6 ?_
  refine lv_lstore (lv' := [(5, .long ((a * a) + (b * b))), (0, .ref mx), (1, .long a), (3, .long b)]) hx hb d_M_angleOf_7 hl (by decide) rfl (fun ls hl => ?_)
  refine lv_aload_n hx hb d_M_angleOf_9 rfl (lv_at hl 1 rfl) ?_
  refine lv_iconst (v := 1) hx hb d_M_angleOf_10 (by decide) ?_
  refine lv_lload_n hx hb d_M_angleOf_11 rfl (lv_at hl 2 rfl) ?_
  refine lv_lload_n hx hb d_M_angleOf_12 rfl (lv_at hl 3 rfl) ?_
  refine lv_lmul hx hb d_M_angleOf_13 ?_
  refine lv_lload hx hb d_M_angleOf_14 (lv_at hl 0 rfl) ?_
  refine cs_callv (va_runV (As := [.int 1, .long (a * b), .long ((a * a) + (b * b))]) (rest := []) ⟨hx, hb, hml, hown, ha⟩ (c_M_ratio l dC dI mx th sd nt ro pl vl f pa pr cL g 1 (a * b) ((a * a) + (b * b)) (by omega) hf9 hal _) (cwV 3 ha g_M_M_ratio rfl rfl rfl (by decide +kernel) ⟨Nat.le_of_ble_eq_true rfl, Nat.le_of_ble_eq_true rfl⟩) (ct_preV ct_G0ok trivial hK hP hD hS hA [0, 1] rfl (by decide) [0] rfl 0 4 rfl rfl rfl) rfl rfl hl.1 rfl (lv_room (Nat.le_of_ble_eq_true rfl)) d_M_angleOf_16 ⟨Nat.le_of_ble_eq_true rfl, Nat.le_of_ble_eq_true rfl⟩) hP hD hS hA [0, 1] rfl (by decide) (fun _ => rfl) (fun g_6 H locs hg_6 hP hD hS => ?_)
  have hP : va_P (dC, dI) cl9 [(mx, .inr (4, [.int th, .long sd, .int nt, .ref ro, .ref pl, .ref vl, .int (nI f), .ref pa, .ref pr])), (pa, .inl (cL, 240, .inr (.inl g_6)))] H := hP
  have hD : va_D A [(mx, .inr (4, [.int th, .long sd, .int nt, .ref ro, .ref pl, .ref vl, .int (nI f), .ref pa, .ref pr])), (pa, .inl (cL, 240, .inr (.inl g_6)))] := hD
  have hg_6 : g_6 = mr_by 1 ((a * a) + (b * b)) (mr_wh f 1 (a * b) g) := hg_6
  refine lv_aload_n hx hb d_M_angleOf_19 rfl (lv_at hl 1 rfl) ?_
  refine lv_iconst (v := 0) hx hb d_M_angleOf_20 (by decide) ?_
  refine lv_iconst (v := 1) hx hb d_M_angleOf_21 (by decide) ?_
  refine cs_callv (va_runV (As := [.int 0, .int 1]) (rest := []) ⟨hx, hb, hml, hown, ha⟩ (c_M_copy l dC dI mx th sd nt ro pl vl f pa pr cL g_6 0 1 (by omega) (by omega) _) (cwV 2 ha g_M_M_copy rfl rfl rfl (by decide +kernel) ⟨Nat.le_of_ble_eq_true rfl, Nat.le_of_ble_eq_true rfl⟩) (ct_preV ct_G0ok trivial hK hP hD hS hA [0, 1] rfl (by decide) [0] rfl 0 4 rfl rfl rfl) rfl rfl hl.1 rfl (lv_room (Nat.le_of_ble_eq_true rfl)) d_M_angleOf_22 ⟨Nat.le_of_ble_eq_true rfl, Nat.le_of_ble_eq_true rfl⟩) hP hD hS hA [0, 1] rfl (by decide) (fun _ => rfl) (fun g_7 H locs hg_7 hP hD hS => ?_)
  have hP : va_P (dC, dI) cl9 [(mx, .inr (4, [.int th, .long sd, .int nt, .ref ro, .ref pl, .ref vl, .int (nI f), .ref pa, .ref pr])), (pa, .inl (cL, 240, .inr (.inl g_7)))] H := hP
  have hD : va_D A [(mx, .inr (4, [.int th, .long sd, .int nt, .ref ro, .ref pl, .ref vl, .int (nI f), .ref pa, .ref pr])), (pa, .inl (cL, 240, .inr (.inl g_7)))] := hD
  have hg_7 : g_7 = mr_cp 0 1 g_6 := hg_7.trans (ir_eq _).symm
  refine lv_iconst (v := 1) hx hb d_M_angleOf_25 (by decide) ?_
  refine lv_istore (lv' := [(7, .int 1), (5, .long ((a * a) + (b * b))), (0, .ref mx), (1, .long a), (3, .long b)]) hx hb d_M_angleOf_26 hl (by decide) rfl (fun ls hl => ?_)
  have e9 : an_it f a b g 0 = g_7 := by rw [hg_7, hg_6]; rfl
  refine lp_M_angleOf (mx := mx) (th := th) (sd := sd) (nt := nt) (ro := ro) (pl := pl) (vl := vl) (f := f) (pa := pa) (pr := pr) (cL := cL) (g := g) (a := a) (b := b) hF hA hK (Nat.le_of_ble_eq_true rfl) (Nat.le_of_ble_eq_true rfl) (Nat.le_of_ble_eq_true rfl) (Nat.le_of_ble_eq_true rfl) hal hkk hk hz (fun H locs ls hP hD hS hl => ?_) kk 0 (by omega) _ _ _ (by rw [e9]; exact hP) (by rw [e9]; exact hD) hS (lv_sub hl [2, 3, 1, 0] rfl)
  exact ct_vret hF d_M_angleOf_89 (an_it f a b g kk) rfl (hP.sub [0, 1] rfl) (hD.sub [0, 1] (by decide) rfl) hK hS
