def th_an (y x : Int32) : Int32 := if y < -1000000 then 1 else if 1000000 < y then 1 else if x < -1000000 then 1 else if x ≤ 1000000 then 0 else 1
def vl_an (y x : Int32) (g : Nat → Int64) : Int64 := if y < -1000000 then 0 else if 1000000 < y then 0 else if x < -1000000 then 0 else if x ≤ 1000000 then (if y = 0 then (if x < 0 then ag_val y x g else if x = 0 then -9223372036854775808 else 0) else ag_val y x g) else 0
theorem ab9_m {x : Int32} (h : ¬ x < -1000000) (h2 : x ≤ 1000000) : 0 ≤ (ab9 x).toInt ∧ (ab9 x).toInt ≤ 1000000 := by
  have e : (1000000 : Int32).toInt = 1000000 := rfl
  have e2 : (-1000000 : Int32).toInt = -1000000 := rfl
  have h3 : ¬ x.toInt < -1000000 := fun q => h ((i32_lt _ _).mpr (by rw [e2]; exact q))
  have h4 := (i32_le _ _).mp h2
  exact ab9_bd (B := 1000000) (by omega) (by omega) (by decide)
theorem ab9_p {x : Int32} (h : ¬ x < -1000000) (h0 : ¬ x = 0) : 0 < (ab9 x).toInt := by
  have e2 : (-1000000 : Int32).toInt = -1000000 := rfl
  have h3 : ¬ x.toInt < -1000000 := fun q => h ((i32_lt _ _).mpr (by rw [e2]; exact q))
  have h5 : ¬ x.toInt = 0 := fun q => h0 (Int32.toInt_inj.mp q)
  rw [ab9_eq (by omega)]
  split <;> omega
set_option maxHeartbeats 4000000 in
set_option maxRecDepth 100000 in
/-- one pass -/
theorem ps_M_angle {p : Program} {l : Launch} {e : Env} {R : Room} {s : State} {m : MethodId} {args : Array Value} {below : List Frame} {meth : Method} {c : Code} {Q : State → Prop} {A : Nat → Prop} {cells slots : Nat} {dC : Nat → ClassId} {dI : Nat → Nat → Nat} {mx : Nat} {th : Int32} {sd : Int64} {nt : Int32} {ro : Nat} {pl : Nat} {vl : Nat} {f : Nat} {pa : Nat} {pr : Nat} {cL : ClassId} {g : Nat → Int64} {p9 : Nat → Int64} {y : Int32} {x : Int32} (hF : ct_F p s m meth c b_M_angle ((some .long)) 10 w_M_angle y_M_angle args) (hA : ∀ q, s.heap.size ≤ q → A q) (hK : va_K (dC, dI) cl9 [(cL, .long)] s) (hRf : 4 ≤ R.frames) (hRl : 140 ≤ R.locals) (hRc : cells ≤ R.cells) (hRs : slots ≤ R.slots) (hf : f ≤ 18) (ha9 : 0 ≤ (ab9 x).toInt ∧ (ab9 x).toInt ≤ 1000000) (hb9 : 0 ≤ (ab9 y).toInt ∧ (ab9 y).toInt ≤ 1000000) (hpos : 0 < (ab9 x).toInt ∨ 0 < (ab9 y).toInt)
    (K : ∀ (g8 p8 : Nat → Int64) (v8 : Int64), ag_P y x f g = g8 → p8 = p9 → ag_V y x f g = v8 → ∀ (H : Heap) (locs : List Loc) (ls : Array Slot), va_P (dC, dI) cl9 [(mx, .inr (4, [.int th, .long sd, .int nt, .ref ro, .ref pl, .ref vl, .int (nI f), .ref pa, .ref pr])), (pa, .inl (cL, 240, .inr (.inl g8))), (pr, .inl (cL, 48, .inr (.inl p8)))] H → va_D A [(mx, .inr (4, [.int th, .long sd, .int nt, .ref ro, .ref pl, .ref vl, .int (nI f), .ref pa, .ref pr])), (pa, .inl (cL, 240, .inr (.inl g8))), (pr, .inl (cL, 48, .inr (.inl p8)))] → va_S A s.heap H locs → lv_has ls 10 [(0, .ref mx), (1, .int y), (2, .int x), (3, .long (ab9 x)), (5, .long (ab9 y))] → W p l e R s m args below meth c H locs cells slots Q (F0 m 195 ls [.long v8])) :
    ∀ (H : Heap) (locs : List Loc) (ls : Array Slot), va_P (dC, dI) cl9 [(mx, .inr (4, [.int th, .long sd, .int nt, .ref ro, .ref pl, .ref vl, .int (nI f), .ref pa, .ref pr])), (pa, .inl (cL, 240, .inr (.inl g))), (pr, .inl (cL, 48, .inr (.inl p9)))] H → va_D A [(mx, .inr (4, [.int th, .long sd, .int nt, .ref ro, .ref pl, .ref vl, .int (nI f), .ref pa, .ref pr])), (pa, .inl (cL, 240, .inr (.inl g))), (pr, .inl (cL, 48, .inr (.inl p9)))] → va_S A s.heap H locs → lv_has ls 10 [(0, .ref mx), (1, .int y), (2, .int x), (3, .long (ab9 x)), (5, .long (ab9 y))] → W p l e R s m args below meth c H locs cells slots Q (F0 m 106 ls []) := by
  obtain ⟨hx, hb, hr, hml, hts, hown, hlocks, hnm⟩ := id hF
  have hown : s.vm.findClass R_M = some m.cls := hown
  have ha : ∀ w ∈ al_M, w.before args s = true := fun w h => hts w (List.mem_cons_of_mem _ h)
  intro H locs ls hP hD hS hl
  refine lv_aload_n hx hb d_M_angle_106 rfl (lv_at hl 0 rfl) ?_
  refine cs_callv (va_runV (As := []) (rest := []) ⟨hx, hb, hml, hown, ha⟩ (d_M_half l dC dI mx th sd nt ro pl vl f pa pr cL g (by omega) _) (cwV 0 ha g_M_M_half rfl rfl rfl (by decide +kernel) ⟨Nat.le_trans (Nat.le_of_ble_eq_true rfl) hRf, Nat.le_trans (Nat.le_of_ble_eq_true rfl) hRl⟩) (ct_preV ct_G0ok trivial hK hP hD hS hA [0, 1] rfl (by decide) [0] rfl 0 4 rfl rfl rfl) rfl rfl hl.1 rfl (lv_room (Nat.le_of_ble_eq_true rfl)) d_M_angle_107 ⟨hRc, hRs⟩) hP hD hS hA [0, 1] rfl (by decide) (fun _ => rfl) (fun g_1 H locs hg_1 hP hD hS => ?_)
  have hP : va_P (dC, dI) cl9 [(mx, .inr (4, [.int th, .long sd, .int nt, .ref ro, .ref pl, .ref vl, .int (nI f), .ref pa, .ref pr])), (pa, .inl (cL, 240, .inr (.inl g_1))), (pr, .inl (cL, 48, .inr (.inl p9)))] H := hP
  have hD : va_D A [(mx, .inr (4, [.int th, .long sd, .int nt, .ref ro, .ref pl, .ref vl, .int (nI f), .ref pa, .ref pr])), (pa, .inl (cL, 240, .inr (.inl g_1))), (pr, .inl (cL, 48, .inr (.inl p9)))] := hD
  have hg_1 : g_1 = hfr f g := hg_1
  refine lv_lload hx hb d_M_angle_110 (lv_at hl 4 rfl) ?_
  refine lv_lload_n hx hb d_M_angle_112 rfl (lv_at hl 3 rfl) ?_
  refine ct_jle (tgt := 148) hx hb d_M_angle_113 d_M_angle_114 (by decide) (fun hs_2 => ?_) (fun hs_2 => ?_)
  · have hle : (ab9 y).toInt ≤ (ab9 x).toInt := (i64_le _ _).mp hs_2
    refine lv_aload_n hx hb d_M_angle_148 rfl (lv_at hl 0 rfl) ?_
    refine lv_lload hx hb d_M_angle_149 (lv_at hl 4 rfl) ?_
    refine lv_lload_n hx hb d_M_angle_151 rfl (lv_at hl 3 rfl) ?_
    refine cs_callv (va_runV (As := [.long (ab9 y), .long (ab9 x)]) (rest := []) ⟨hx, hb, hml, hown, ha⟩ (d_M_angleOf l dC dI mx th sd nt ro pl vl f pa pr cL g_1 (ab9 y) (ab9 x) hf hb9.1 hle (by omega) ha9.2 _) (cwV 2 ha g_M_M_angleOf rfl rfl rfl (by decide +kernel) ⟨Nat.le_trans (Nat.le_of_ble_eq_true rfl) hRf, Nat.le_trans (Nat.le_of_ble_eq_true rfl) hRl⟩) (ct_preV ct_G0ok trivial hK hP hD hS hA [0, 1] rfl (by decide) [0] rfl 0 4 rfl rfl rfl) rfl rfl hl.1 rfl (lv_room (Nat.le_of_ble_eq_true rfl)) d_M_angle_152 ⟨hRc, hRs⟩) hP hD hS hA [0, 1] rfl (by decide) (fun _ => rfl) (fun g_3 H locs hg_3 hP hD hS => ?_)
    have hP : va_P (dC, dI) cl9 [(mx, .inr (4, [.int th, .long sd, .int nt, .ref ro, .ref pl, .ref vl, .int (nI f), .ref pa, .ref pr])), (pa, .inl (cL, 240, .inr (.inl g_3))), (pr, .inl (cL, 48, .inr (.inl p9)))] H := hP
    have hD : va_D A [(mx, .inr (4, [.int th, .long sd, .int nt, .ref ro, .ref pl, .ref vl, .int (nI f), .ref pa, .ref pr])), (pa, .inl (cL, 240, .inr (.inl g_3))), (pr, .inl (cL, 48, .inr (.inl p9)))] := hD
    have hg_3 : g_3 = anr f (ab9 y) (ab9 x) g_1 := hg_3
    refine lv_iload_n hx hb d_M_angle_155 rfl (lv_at hl 2 rfl) ?_
    refine lv_if_ge (tgt := 181) hx hb d_M_angle_156 (by decide) (fun hs_4 => ?_) (fun hs_4 => ?_)
    · refine lv_aload_n hx hb d_M_angle_181 rfl (lv_at hl 0 rfl) ?_
      refine lv_iconst (v := 0) hx hb d_M_angle_182 (by decide) ?_
      refine lv_iload_n hx hb d_M_angle_183 rfl (lv_at hl 1 rfl) ?_
      refine lv_if_ge (tgt := 191) hx hb d_M_angle_184 (by decide) (fun hs_5 => ?_) (fun hs_5 => ?_)
      · refine lv_iconst (v := 0) hx hb d_M_angle_191 (by decide) ?_
        refine W.eq (g2 := F0 m 192 ls [.int (ng9 y), .int 0, .ref mx]) (congrArg (fun t => F0 m 192 ls [.int t, .int 0, .ref mx]) (show (0 : Int32) = ng9 y from (if_pos hs_5).symm)) ?_
        refine cs_calll (va_runV (As := [.int 0, .int (ng9 y)]) (rest := []) ⟨hx, hb, hml, hown, ha⟩ (c_M_told l dC dI mx th sd nt ro pl vl f pa pr cL g_3 0 (ng9 y) (by omega) (by omega) _) (cwV 2 ha g_M_M_told rfl rfl rfl (by decide +kernel) ⟨Nat.le_trans (Nat.le_of_ble_eq_true rfl) hRf, Nat.le_trans (Nat.le_of_ble_eq_true rfl) hRl⟩) (ct_preV ct_G0ok trivial hK hP hD hS hA [0, 1] rfl (by decide) [0] rfl 0 4 rfl rfl rfl) rfl rfl hl.1 rfl (lv_room (Nat.le_of_ble_eq_true rfl)) d_M_angle_192 ⟨hRc, hRs⟩) hP hD hS hA [0, 1] rfl (by decide) (fun _ => rfl) (fun v_7 g_6 H locs hg_6 hP hD hS => ?_)
        have hP : va_P (dC, dI) cl9 [(mx, .inr (4, [.int th, .long sd, .int nt, .ref ro, .ref pl, .ref vl, .int (nI f), .ref pa, .ref pr])), (pa, .inl (cL, 240, .inr (.inl g_6))), (pr, .inl (cL, 48, .inr (.inl p9)))] H := hP
        have hD : va_D A [(mx, .inr (4, [.int th, .long sd, .int nt, .ref ro, .ref pl, .ref vl, .int (nI f), .ref pa, .ref pr])), (pa, .inl (cL, 240, .inr (.inl g_6))), (pr, .inl (cL, 48, .inr (.inl p9)))] := hD
        obtain ⟨hg_6, hv_7⟩ := hg_6
        have eP : ag_P y x f g = g_6 := by rw [hg_6, hg_3, hg_1]; exact congrArg (mr_tim 0 1000000000) ((if_pos hs_4).trans (if_pos hs_2))
        have eV : ag_V y x f g = v_7 := by show (if ng9 y = 0 then _ else _) = _; rw [eP]; exact (hv_7).symm
        exact K _ _ _ eP rfl eV _ _ _ hP hD hS (lv_sub hl [0, 1, 2, 3, 4] rfl)
      · refine lv_iconst (v := 1) hx hb d_M_angle_187 (by decide) ?_
        refine lv_goto (tgt := 192) hx hb d_M_angle_188 (by decide) ?_
        refine W.eq (g2 := F0 m 192 ls [.int (ng9 y), .int 0, .ref mx]) (congrArg (fun t => F0 m 192 ls [.int t, .int 0, .ref mx]) (show (1 : Int32) = ng9 y from (if_neg hs_5).symm)) ?_
        refine cs_calll (va_runV (As := [.int 0, .int (ng9 y)]) (rest := []) ⟨hx, hb, hml, hown, ha⟩ (c_M_told l dC dI mx th sd nt ro pl vl f pa pr cL g_3 0 (ng9 y) (by omega) (by omega) _) (cwV 2 ha g_M_M_told rfl rfl rfl (by decide +kernel) ⟨Nat.le_trans (Nat.le_of_ble_eq_true rfl) hRf, Nat.le_trans (Nat.le_of_ble_eq_true rfl) hRl⟩) (ct_preV ct_G0ok trivial hK hP hD hS hA [0, 1] rfl (by decide) [0] rfl 0 4 rfl rfl rfl) rfl rfl hl.1 rfl (lv_room (Nat.le_of_ble_eq_true rfl)) d_M_angle_192 ⟨hRc, hRs⟩) hP hD hS hA [0, 1] rfl (by decide) (fun _ => rfl) (fun v_9 g_8 H locs hg_8 hP hD hS => ?_)
        have hP : va_P (dC, dI) cl9 [(mx, .inr (4, [.int th, .long sd, .int nt, .ref ro, .ref pl, .ref vl, .int (nI f), .ref pa, .ref pr])), (pa, .inl (cL, 240, .inr (.inl g_8))), (pr, .inl (cL, 48, .inr (.inl p9)))] H := hP
        have hD : va_D A [(mx, .inr (4, [.int th, .long sd, .int nt, .ref ro, .ref pl, .ref vl, .int (nI f), .ref pa, .ref pr])), (pa, .inl (cL, 240, .inr (.inl g_8))), (pr, .inl (cL, 48, .inr (.inl p9)))] := hD
        obtain ⟨hg_8, hv_9⟩ := hg_8
        have eP : ag_P y x f g = g_8 := by rw [hg_8, hg_3, hg_1]; exact congrArg (mr_tim 0 1000000000) ((if_pos hs_4).trans (if_pos hs_2))
        have eV : ag_V y x f g = v_9 := by show (if ng9 y = 0 then _ else _) = _; rw [eP]; exact (hv_9).symm
        exact K _ _ _ eP rfl eV _ _ _ hP hD hS (lv_sub hl [0, 1, 2, 3, 4] rfl)
    · refine lv_aload_n hx hb d_M_angle_159 rfl (lv_at hl 0 rfl) ?_
      refine lv_bipush (v := 6) hx hb d_M_angle_160 (by decide) ?_
      refine lv_bipush (v := 7) hx hb d_M_angle_162 (by decide) ?_
      refine cs_callv (va_runV (As := [.int 6, .int 7]) (rest := []) ⟨hx, hb, hml, hown, ha⟩ (c_M_copy l dC dI mx th sd nt ro pl vl f pa pr cL g_3 6 7 (by omega) (by omega) _) (cwV 2 ha g_M_M_copy rfl rfl rfl (by decide +kernel) ⟨Nat.le_trans (Nat.le_of_ble_eq_true rfl) hRf, Nat.le_trans (Nat.le_of_ble_eq_true rfl) hRl⟩) (ct_preV ct_G0ok trivial hK hP hD hS hA [0, 1] rfl (by decide) [0] rfl 0 4 rfl rfl rfl) rfl rfl hl.1 rfl (lv_room (Nat.le_of_ble_eq_true rfl)) d_M_angle_164 ⟨hRc, hRs⟩) hP hD hS hA [0, 1] rfl (by decide) (fun _ => rfl) (fun g_10 H locs hg_10 hP hD hS => ?_)
      have hP : va_P (dC, dI) cl9 [(mx, .inr (4, [.int th, .long sd, .int nt, .ref ro, .ref pl, .ref vl, .int (nI f), .ref pa, .ref pr])), (pa, .inl (cL, 240, .inr (.inl g_10))), (pr, .inl (cL, 48, .inr (.inl p9)))] H := hP
      have hD : va_D A [(mx, .inr (4, [.int th, .long sd, .int nt, .ref ro, .ref pl, .ref vl, .int (nI f), .ref pa, .ref pr])), (pa, .inl (cL, 240, .inr (.inl g_10))), (pr, .inl (cL, 48, .inr (.inl p9)))] := hD
      have hg_10 : g_10 = mr_cp 6 7 g_3 := hg_10.trans (ir_eq _).symm
      refine lv_aload_n hx hb d_M_angle_167 rfl (lv_at hl 0 rfl) ?_
      refine lv_bipush (v := 6) hx hb d_M_angle_168 (by decide) ?_
      refine lv_iconst (v := 0) hx hb d_M_angle_170 (by decide) ?_
      refine cs_callv (va_runV (As := [.int 6, .int 0]) (rest := []) ⟨hx, hb, hml, hown, ha⟩ (c_M_less l dC dI mx th sd nt ro pl vl f pa pr cL g_10 6 0 (by omega) (by omega) _) (cwV 2 ha g_M_M_less rfl rfl rfl (by decide +kernel) ⟨Nat.le_trans (Nat.le_of_ble_eq_true rfl) hRf, Nat.le_trans (Nat.le_of_ble_eq_true rfl) hRl⟩) (ct_preV ct_G0ok trivial hK hP hD hS hA [0, 1] rfl (by decide) [0] rfl 0 4 rfl rfl rfl) rfl rfl hl.1 rfl (lv_room (Nat.le_of_ble_eq_true rfl)) d_M_angle_171 ⟨hRc, hRs⟩) hP hD hS hA [0, 1] rfl (by decide) (fun _ => rfl) (fun g_11 H locs hg_11 hP hD hS => ?_)
      have hP : va_P (dC, dI) cl9 [(mx, .inr (4, [.int th, .long sd, .int nt, .ref ro, .ref pl, .ref vl, .int (nI f), .ref pa, .ref pr])), (pa, .inl (cL, 240, .inr (.inl g_11))), (pr, .inl (cL, 48, .inr (.inl p9)))] H := hP
      have hD : va_D A [(mx, .inr (4, [.int th, .long sd, .int nt, .ref ro, .ref pl, .ref vl, .int (nI f), .ref pa, .ref pr])), (pa, .inl (cL, 240, .inr (.inl g_11))), (pr, .inl (cL, 48, .inr (.inl p9)))] := hD
      have hg_11 : g_11 = mr_les 6 0 g_10 := hg_11.trans (ir_eq _).symm
      refine lv_aload_n hx hb d_M_angle_174 rfl (lv_at hl 0 rfl) ?_
      refine lv_iconst (v := 0) hx hb d_M_angle_175 (by decide) ?_
      refine lv_bipush (v := 6) hx hb d_M_angle_176 (by decide) ?_
      refine cs_callv (va_runV (As := [.int 0, .int 6]) (rest := []) ⟨hx, hb, hml, hown, ha⟩ (c_M_copy l dC dI mx th sd nt ro pl vl f pa pr cL g_11 0 6 (by omega) (by omega) _) (cwV 2 ha g_M_M_copy rfl rfl rfl (by decide +kernel) ⟨Nat.le_trans (Nat.le_of_ble_eq_true rfl) hRf, Nat.le_trans (Nat.le_of_ble_eq_true rfl) hRl⟩) (ct_preV ct_G0ok trivial hK hP hD hS hA [0, 1] rfl (by decide) [0] rfl 0 4 rfl rfl rfl) rfl rfl hl.1 rfl (lv_room (Nat.le_of_ble_eq_true rfl)) d_M_angle_178 ⟨hRc, hRs⟩) hP hD hS hA [0, 1] rfl (by decide) (fun _ => rfl) (fun g_12 H locs hg_12 hP hD hS => ?_)
      have hP : va_P (dC, dI) cl9 [(mx, .inr (4, [.int th, .long sd, .int nt, .ref ro, .ref pl, .ref vl, .int (nI f), .ref pa, .ref pr])), (pa, .inl (cL, 240, .inr (.inl g_12))), (pr, .inl (cL, 48, .inr (.inl p9)))] H := hP
      have hD : va_D A [(mx, .inr (4, [.int th, .long sd, .int nt, .ref ro, .ref pl, .ref vl, .int (nI f), .ref pa, .ref pr])), (pa, .inl (cL, 240, .inr (.inl g_12))), (pr, .inl (cL, 48, .inr (.inl p9)))] := hD
      have hg_12 : g_12 = mr_cp 0 6 g_11 := hg_12.trans (ir_eq _).symm
      refine lv_aload_n hx hb d_M_angle_181 rfl (lv_at hl 0 rfl) ?_
      refine lv_iconst (v := 0) hx hb d_M_angle_182 (by decide) ?_
      refine lv_iload_n hx hb d_M_angle_183 rfl (lv_at hl 1 rfl) ?_
      refine lv_if_ge (tgt := 191) hx hb d_M_angle_184 (by decide) (fun hs_13 => ?_) (fun hs_13 => ?_)
      · refine lv_iconst (v := 0) hx hb d_M_angle_191 (by decide) ?_
        refine W.eq (g2 := F0 m 192 ls [.int (ng9 y), .int 0, .ref mx]) (congrArg (fun t => F0 m 192 ls [.int t, .int 0, .ref mx]) (show (0 : Int32) = ng9 y from (if_pos hs_13).symm)) ?_
        refine cs_calll (va_runV (As := [.int 0, .int (ng9 y)]) (rest := []) ⟨hx, hb, hml, hown, ha⟩ (c_M_told l dC dI mx th sd nt ro pl vl f pa pr cL g_12 0 (ng9 y) (by omega) (by omega) _) (cwV 2 ha g_M_M_told rfl rfl rfl (by decide +kernel) ⟨Nat.le_trans (Nat.le_of_ble_eq_true rfl) hRf, Nat.le_trans (Nat.le_of_ble_eq_true rfl) hRl⟩) (ct_preV ct_G0ok trivial hK hP hD hS hA [0, 1] rfl (by decide) [0] rfl 0 4 rfl rfl rfl) rfl rfl hl.1 rfl (lv_room (Nat.le_of_ble_eq_true rfl)) d_M_angle_192 ⟨hRc, hRs⟩) hP hD hS hA [0, 1] rfl (by decide) (fun _ => rfl) (fun v_15 g_14 H locs hg_14 hP hD hS => ?_)
        have hP : va_P (dC, dI) cl9 [(mx, .inr (4, [.int th, .long sd, .int nt, .ref ro, .ref pl, .ref vl, .int (nI f), .ref pa, .ref pr])), (pa, .inl (cL, 240, .inr (.inl g_14))), (pr, .inl (cL, 48, .inr (.inl p9)))] H := hP
        have hD : va_D A [(mx, .inr (4, [.int th, .long sd, .int nt, .ref ro, .ref pl, .ref vl, .int (nI f), .ref pa, .ref pr])), (pa, .inl (cL, 240, .inr (.inl g_14))), (pr, .inl (cL, 48, .inr (.inl p9)))] := hD
        obtain ⟨hg_14, hv_15⟩ := hg_14
        have eP : ag_P y x f g = g_14 := by rw [hg_14, hg_12, hg_11, hg_10, hg_3, hg_1]; exact congrArg (mr_tim 0 1000000000) ((if_neg hs_4).trans (congrArg (fun G => mr_cp 0 6 (mr_les 6 0 (mr_cp 6 7 G))) (if_pos hs_2)))
        have eV : ag_V y x f g = v_15 := by show (if ng9 y = 0 then _ else _) = _; rw [eP]; exact (hv_15).symm
        exact K _ _ _ eP rfl eV _ _ _ hP hD hS (lv_sub hl [0, 1, 2, 3, 4] rfl)
      · refine lv_iconst (v := 1) hx hb d_M_angle_187 (by decide) ?_
        refine lv_goto (tgt := 192) hx hb d_M_angle_188 (by decide) ?_
        refine W.eq (g2 := F0 m 192 ls [.int (ng9 y), .int 0, .ref mx]) (congrArg (fun t => F0 m 192 ls [.int t, .int 0, .ref mx]) (show (1 : Int32) = ng9 y from (if_neg hs_13).symm)) ?_
        refine cs_calll (va_runV (As := [.int 0, .int (ng9 y)]) (rest := []) ⟨hx, hb, hml, hown, ha⟩ (c_M_told l dC dI mx th sd nt ro pl vl f pa pr cL g_12 0 (ng9 y) (by omega) (by omega) _) (cwV 2 ha g_M_M_told rfl rfl rfl (by decide +kernel) ⟨Nat.le_trans (Nat.le_of_ble_eq_true rfl) hRf, Nat.le_trans (Nat.le_of_ble_eq_true rfl) hRl⟩) (ct_preV ct_G0ok trivial hK hP hD hS hA [0, 1] rfl (by decide) [0] rfl 0 4 rfl rfl rfl) rfl rfl hl.1 rfl (lv_room (Nat.le_of_ble_eq_true rfl)) d_M_angle_192 ⟨hRc, hRs⟩) hP hD hS hA [0, 1] rfl (by decide) (fun _ => rfl) (fun v_17 g_16 H locs hg_16 hP hD hS => ?_)
        have hP : va_P (dC, dI) cl9 [(mx, .inr (4, [.int th, .long sd, .int nt, .ref ro, .ref pl, .ref vl, .int (nI f), .ref pa, .ref pr])), (pa, .inl (cL, 240, .inr (.inl g_16))), (pr, .inl (cL, 48, .inr (.inl p9)))] H := hP
        have hD : va_D A [(mx, .inr (4, [.int th, .long sd, .int nt, .ref ro, .ref pl, .ref vl, .int (nI f), .ref pa, .ref pr])), (pa, .inl (cL, 240, .inr (.inl g_16))), (pr, .inl (cL, 48, .inr (.inl p9)))] := hD
        obtain ⟨hg_16, hv_17⟩ := hg_16
        have eP : ag_P y x f g = g_16 := by rw [hg_16, hg_12, hg_11, hg_10, hg_3, hg_1]; exact congrArg (mr_tim 0 1000000000) ((if_neg hs_4).trans (congrArg (fun G => mr_cp 0 6 (mr_les 6 0 (mr_cp 6 7 G))) (if_pos hs_2)))
        have eV : ag_V y x f g = v_17 := by show (if ng9 y = 0 then _ else _) = _; rw [eP]; exact (hv_17).symm
        exact K _ _ _ eP rfl eV _ _ _ hP hD hS (lv_sub hl [0, 1, 2, 3, 4] rfl)
  · have hle : ¬ (ab9 y).toInt ≤ (ab9 x).toInt := fun z => hs_2 ((i64_le _ _).mpr z)
    refine lv_aload_n hx hb d_M_angle_117 rfl (lv_at hl 0 rfl) ?_
    refine lv_lload_n hx hb d_M_angle_118 rfl (lv_at hl 3 rfl) ?_
    refine lv_lload hx hb d_M_angle_119 (lv_at hl 4 rfl) ?_
    refine cs_callv (va_runV (As := [.long (ab9 x), .long (ab9 y)]) (rest := []) ⟨hx, hb, hml, hown, ha⟩ (d_M_angleOf l dC dI mx th sd nt ro pl vl f pa pr cL g_1 (ab9 x) (ab9 y) hf ha9.1 (by omega) (by omega) hb9.2 _) (cwV 2 ha g_M_M_angleOf rfl rfl rfl (by decide +kernel) ⟨Nat.le_trans (Nat.le_of_ble_eq_true rfl) hRf, Nat.le_trans (Nat.le_of_ble_eq_true rfl) hRl⟩) (ct_preV ct_G0ok trivial hK hP hD hS hA [0, 1] rfl (by decide) [0] rfl 0 4 rfl rfl rfl) rfl rfl hl.1 rfl (lv_room (Nat.le_of_ble_eq_true rfl)) d_M_angle_121 ⟨hRc, hRs⟩) hP hD hS hA [0, 1] rfl (by decide) (fun _ => rfl) (fun g_18 H locs hg_18 hP hD hS => ?_)
    have hP : va_P (dC, dI) cl9 [(mx, .inr (4, [.int th, .long sd, .int nt, .ref ro, .ref pl, .ref vl, .int (nI f), .ref pa, .ref pr])), (pa, .inl (cL, 240, .inr (.inl g_18))), (pr, .inl (cL, 48, .inr (.inl p9)))] H := hP
    have hD : va_D A [(mx, .inr (4, [.int th, .long sd, .int nt, .ref ro, .ref pl, .ref vl, .int (nI f), .ref pa, .ref pr])), (pa, .inl (cL, 240, .inr (.inl g_18))), (pr, .inl (cL, 48, .inr (.inl p9)))] := hD
    have hg_18 : g_18 = anr f (ab9 x) (ab9 y) g_1 := hg_18
    refine lv_aload_n hx hb d_M_angle_124 rfl (lv_at hl 0 rfl) ?_
    refine lv_bipush (v := 6) hx hb d_M_angle_125 (by decide) ?_
    refine lv_iconst (v := 4) hx hb d_M_angle_127 (by decide) ?_
    refine cs_callv (va_runV (As := [.int 6, .int 4]) (rest := []) ⟨hx, hb, hml, hown, ha⟩ (c_M_copy l dC dI mx th sd nt ro pl vl f pa pr cL g_18 6 4 (by omega) (by omega) _) (cwV 2 ha g_M_M_copy rfl rfl rfl (by decide +kernel) ⟨Nat.le_trans (Nat.le_of_ble_eq_true rfl) hRf, Nat.le_trans (Nat.le_of_ble_eq_true rfl) hRl⟩) (ct_preV ct_G0ok trivial hK hP hD hS hA [0, 1] rfl (by decide) [0] rfl 0 4 rfl rfl rfl) rfl rfl hl.1 rfl (lv_room (Nat.le_of_ble_eq_true rfl)) d_M_angle_128 ⟨hRc, hRs⟩) hP hD hS hA [0, 1] rfl (by decide) (fun _ => rfl) (fun g_19 H locs hg_19 hP hD hS => ?_)
    have hP : va_P (dC, dI) cl9 [(mx, .inr (4, [.int th, .long sd, .int nt, .ref ro, .ref pl, .ref vl, .int (nI f), .ref pa, .ref pr])), (pa, .inl (cL, 240, .inr (.inl g_19))), (pr, .inl (cL, 48, .inr (.inl p9)))] H := hP
    have hD : va_D A [(mx, .inr (4, [.int th, .long sd, .int nt, .ref ro, .ref pl, .ref vl, .int (nI f), .ref pa, .ref pr])), (pa, .inl (cL, 240, .inr (.inl g_19))), (pr, .inl (cL, 48, .inr (.inl p9)))] := hD
    have hg_19 : g_19 = mr_cp 6 4 g_18 := hg_19.trans (ir_eq _).symm
    refine lv_aload_n hx hb d_M_angle_131 rfl (lv_at hl 0 rfl) ?_
    refine lv_bipush (v := 6) hx hb d_M_angle_132 (by decide) ?_
    refine lv_iconst (v := 0) hx hb d_M_angle_134 (by decide) ?_
    refine cs_callv (va_runV (As := [.int 6, .int 0]) (rest := []) ⟨hx, hb, hml, hown, ha⟩ (c_M_less l dC dI mx th sd nt ro pl vl f pa pr cL g_19 6 0 (by omega) (by omega) _) (cwV 2 ha g_M_M_less rfl rfl rfl (by decide +kernel) ⟨Nat.le_trans (Nat.le_of_ble_eq_true rfl) hRf, Nat.le_trans (Nat.le_of_ble_eq_true rfl) hRl⟩) (ct_preV ct_G0ok trivial hK hP hD hS hA [0, 1] rfl (by decide) [0] rfl 0 4 rfl rfl rfl) rfl rfl hl.1 rfl (lv_room (Nat.le_of_ble_eq_true rfl)) d_M_angle_135 ⟨hRc, hRs⟩) hP hD hS hA [0, 1] rfl (by decide) (fun _ => rfl) (fun g_20 H locs hg_20 hP hD hS => ?_)
    have hP : va_P (dC, dI) cl9 [(mx, .inr (4, [.int th, .long sd, .int nt, .ref ro, .ref pl, .ref vl, .int (nI f), .ref pa, .ref pr])), (pa, .inl (cL, 240, .inr (.inl g_20))), (pr, .inl (cL, 48, .inr (.inl p9)))] H := hP
    have hD : va_D A [(mx, .inr (4, [.int th, .long sd, .int nt, .ref ro, .ref pl, .ref vl, .int (nI f), .ref pa, .ref pr])), (pa, .inl (cL, 240, .inr (.inl g_20))), (pr, .inl (cL, 48, .inr (.inl p9)))] := hD
    have hg_20 : g_20 = mr_les 6 0 g_19 := hg_20.trans (ir_eq _).symm
    refine lv_aload_n hx hb d_M_angle_138 rfl (lv_at hl 0 rfl) ?_
    refine lv_iconst (v := 0) hx hb d_M_angle_139 (by decide) ?_
    refine lv_bipush (v := 6) hx hb d_M_angle_140 (by decide) ?_
    refine cs_callv (va_runV (As := [.int 0, .int 6]) (rest := []) ⟨hx, hb, hml, hown, ha⟩ (c_M_copy l dC dI mx th sd nt ro pl vl f pa pr cL g_20 0 6 (by omega) (by omega) _) (cwV 2 ha g_M_M_copy rfl rfl rfl (by decide +kernel) ⟨Nat.le_trans (Nat.le_of_ble_eq_true rfl) hRf, Nat.le_trans (Nat.le_of_ble_eq_true rfl) hRl⟩) (ct_preV ct_G0ok trivial hK hP hD hS hA [0, 1] rfl (by decide) [0] rfl 0 4 rfl rfl rfl) rfl rfl hl.1 rfl (lv_room (Nat.le_of_ble_eq_true rfl)) d_M_angle_142 ⟨hRc, hRs⟩) hP hD hS hA [0, 1] rfl (by decide) (fun _ => rfl) (fun g_21 H locs hg_21 hP hD hS => ?_)
    have hP : va_P (dC, dI) cl9 [(mx, .inr (4, [.int th, .long sd, .int nt, .ref ro, .ref pl, .ref vl, .int (nI f), .ref pa, .ref pr])), (pa, .inl (cL, 240, .inr (.inl g_21))), (pr, .inl (cL, 48, .inr (.inl p9)))] H := hP
    have hD : va_D A [(mx, .inr (4, [.int th, .long sd, .int nt, .ref ro, .ref pl, .ref vl, .int (nI f), .ref pa, .ref pr])), (pa, .inl (cL, 240, .inr (.inl g_21))), (pr, .inl (cL, 48, .inr (.inl p9)))] := hD
    have hg_21 : g_21 = mr_cp 0 6 g_20 := hg_21.trans (ir_eq _).symm
    refine lv_goto (tgt := 155) hx hb d_M_angle_145 (by decide) ?_
    refine lv_iload_n hx hb d_M_angle_155 rfl (lv_at hl 2 rfl) ?_
    refine lv_if_ge (tgt := 181) hx hb d_M_angle_156 (by decide) (fun hs_22 => ?_) (fun hs_22 => ?_)
    · refine lv_aload_n hx hb d_M_angle_181 rfl (lv_at hl 0 rfl) ?_
      refine lv_iconst (v := 0) hx hb d_M_angle_182 (by decide) ?_
      refine lv_iload_n hx hb d_M_angle_183 rfl (lv_at hl 1 rfl) ?_
      refine lv_if_ge (tgt := 191) hx hb d_M_angle_184 (by decide) (fun hs_23 => ?_) (fun hs_23 => ?_)
      · refine lv_iconst (v := 0) hx hb d_M_angle_191 (by decide) ?_
        refine W.eq (g2 := F0 m 192 ls [.int (ng9 y), .int 0, .ref mx]) (congrArg (fun t => F0 m 192 ls [.int t, .int 0, .ref mx]) (show (0 : Int32) = ng9 y from (if_pos hs_23).symm)) ?_
        refine cs_calll (va_runV (As := [.int 0, .int (ng9 y)]) (rest := []) ⟨hx, hb, hml, hown, ha⟩ (c_M_told l dC dI mx th sd nt ro pl vl f pa pr cL g_21 0 (ng9 y) (by omega) (by omega) _) (cwV 2 ha g_M_M_told rfl rfl rfl (by decide +kernel) ⟨Nat.le_trans (Nat.le_of_ble_eq_true rfl) hRf, Nat.le_trans (Nat.le_of_ble_eq_true rfl) hRl⟩) (ct_preV ct_G0ok trivial hK hP hD hS hA [0, 1] rfl (by decide) [0] rfl 0 4 rfl rfl rfl) rfl rfl hl.1 rfl (lv_room (Nat.le_of_ble_eq_true rfl)) d_M_angle_192 ⟨hRc, hRs⟩) hP hD hS hA [0, 1] rfl (by decide) (fun _ => rfl) (fun v_25 g_24 H locs hg_24 hP hD hS => ?_)
        have hP : va_P (dC, dI) cl9 [(mx, .inr (4, [.int th, .long sd, .int nt, .ref ro, .ref pl, .ref vl, .int (nI f), .ref pa, .ref pr])), (pa, .inl (cL, 240, .inr (.inl g_24))), (pr, .inl (cL, 48, .inr (.inl p9)))] H := hP
        have hD : va_D A [(mx, .inr (4, [.int th, .long sd, .int nt, .ref ro, .ref pl, .ref vl, .int (nI f), .ref pa, .ref pr])), (pa, .inl (cL, 240, .inr (.inl g_24))), (pr, .inl (cL, 48, .inr (.inl p9)))] := hD
        obtain ⟨hg_24, hv_25⟩ := hg_24
        have eP : ag_P y x f g = g_24 := by rw [hg_24, hg_21, hg_20, hg_19, hg_18, hg_1]; exact congrArg (mr_tim 0 1000000000) ((if_pos hs_22).trans (if_neg hs_2))
        have eV : ag_V y x f g = v_25 := by show (if ng9 y = 0 then _ else _) = _; rw [eP]; exact (hv_25).symm
        exact K _ _ _ eP rfl eV _ _ _ hP hD hS (lv_sub hl [0, 1, 2, 3, 4] rfl)
      · refine lv_iconst (v := 1) hx hb d_M_angle_187 (by decide) ?_
        refine lv_goto (tgt := 192) hx hb d_M_angle_188 (by decide) ?_
        refine W.eq (g2 := F0 m 192 ls [.int (ng9 y), .int 0, .ref mx]) (congrArg (fun t => F0 m 192 ls [.int t, .int 0, .ref mx]) (show (1 : Int32) = ng9 y from (if_neg hs_23).symm)) ?_
        refine cs_calll (va_runV (As := [.int 0, .int (ng9 y)]) (rest := []) ⟨hx, hb, hml, hown, ha⟩ (c_M_told l dC dI mx th sd nt ro pl vl f pa pr cL g_21 0 (ng9 y) (by omega) (by omega) _) (cwV 2 ha g_M_M_told rfl rfl rfl (by decide +kernel) ⟨Nat.le_trans (Nat.le_of_ble_eq_true rfl) hRf, Nat.le_trans (Nat.le_of_ble_eq_true rfl) hRl⟩) (ct_preV ct_G0ok trivial hK hP hD hS hA [0, 1] rfl (by decide) [0] rfl 0 4 rfl rfl rfl) rfl rfl hl.1 rfl (lv_room (Nat.le_of_ble_eq_true rfl)) d_M_angle_192 ⟨hRc, hRs⟩) hP hD hS hA [0, 1] rfl (by decide) (fun _ => rfl) (fun v_27 g_26 H locs hg_26 hP hD hS => ?_)
        have hP : va_P (dC, dI) cl9 [(mx, .inr (4, [.int th, .long sd, .int nt, .ref ro, .ref pl, .ref vl, .int (nI f), .ref pa, .ref pr])), (pa, .inl (cL, 240, .inr (.inl g_26))), (pr, .inl (cL, 48, .inr (.inl p9)))] H := hP
        have hD : va_D A [(mx, .inr (4, [.int th, .long sd, .int nt, .ref ro, .ref pl, .ref vl, .int (nI f), .ref pa, .ref pr])), (pa, .inl (cL, 240, .inr (.inl g_26))), (pr, .inl (cL, 48, .inr (.inl p9)))] := hD
        obtain ⟨hg_26, hv_27⟩ := hg_26
        have eP : ag_P y x f g = g_26 := by rw [hg_26, hg_21, hg_20, hg_19, hg_18, hg_1]; exact congrArg (mr_tim 0 1000000000) ((if_pos hs_22).trans (if_neg hs_2))
        have eV : ag_V y x f g = v_27 := by show (if ng9 y = 0 then _ else _) = _; rw [eP]; exact (hv_27).symm
        exact K _ _ _ eP rfl eV _ _ _ hP hD hS (lv_sub hl [0, 1, 2, 3, 4] rfl)
    · refine lv_aload_n hx hb d_M_angle_159 rfl (lv_at hl 0 rfl) ?_
      refine lv_bipush (v := 6) hx hb d_M_angle_160 (by decide) ?_
      refine lv_bipush (v := 7) hx hb d_M_angle_162 (by decide) ?_
      refine cs_callv (va_runV (As := [.int 6, .int 7]) (rest := []) ⟨hx, hb, hml, hown, ha⟩ (c_M_copy l dC dI mx th sd nt ro pl vl f pa pr cL g_21 6 7 (by omega) (by omega) _) (cwV 2 ha g_M_M_copy rfl rfl rfl (by decide +kernel) ⟨Nat.le_trans (Nat.le_of_ble_eq_true rfl) hRf, Nat.le_trans (Nat.le_of_ble_eq_true rfl) hRl⟩) (ct_preV ct_G0ok trivial hK hP hD hS hA [0, 1] rfl (by decide) [0] rfl 0 4 rfl rfl rfl) rfl rfl hl.1 rfl (lv_room (Nat.le_of_ble_eq_true rfl)) d_M_angle_164 ⟨hRc, hRs⟩) hP hD hS hA [0, 1] rfl (by decide) (fun _ => rfl) (fun g_28 H locs hg_28 hP hD hS => ?_)
      have hP : va_P (dC, dI) cl9 [(mx, .inr (4, [.int th, .long sd, .int nt, .ref ro, .ref pl, .ref vl, .int (nI f), .ref pa, .ref pr])), (pa, .inl (cL, 240, .inr (.inl g_28))), (pr, .inl (cL, 48, .inr (.inl p9)))] H := hP
      have hD : va_D A [(mx, .inr (4, [.int th, .long sd, .int nt, .ref ro, .ref pl, .ref vl, .int (nI f), .ref pa, .ref pr])), (pa, .inl (cL, 240, .inr (.inl g_28))), (pr, .inl (cL, 48, .inr (.inl p9)))] := hD
      have hg_28 : g_28 = mr_cp 6 7 g_21 := hg_28.trans (ir_eq _).symm
      refine lv_aload_n hx hb d_M_angle_167 rfl (lv_at hl 0 rfl) ?_
      refine lv_bipush (v := 6) hx hb d_M_angle_168 (by decide) ?_
      refine lv_iconst (v := 0) hx hb d_M_angle_170 (by decide) ?_
      refine cs_callv (va_runV (As := [.int 6, .int 0]) (rest := []) ⟨hx, hb, hml, hown, ha⟩ (c_M_less l dC dI mx th sd nt ro pl vl f pa pr cL g_28 6 0 (by omega) (by omega) _) (cwV 2 ha g_M_M_less rfl rfl rfl (by decide +kernel) ⟨Nat.le_trans (Nat.le_of_ble_eq_true rfl) hRf, Nat.le_trans (Nat.le_of_ble_eq_true rfl) hRl⟩) (ct_preV ct_G0ok trivial hK hP hD hS hA [0, 1] rfl (by decide) [0] rfl 0 4 rfl rfl rfl) rfl rfl hl.1 rfl (lv_room (Nat.le_of_ble_eq_true rfl)) d_M_angle_171 ⟨hRc, hRs⟩) hP hD hS hA [0, 1] rfl (by decide) (fun _ => rfl) (fun g_29 H locs hg_29 hP hD hS => ?_)
      have hP : va_P (dC, dI) cl9 [(mx, .inr (4, [.int th, .long sd, .int nt, .ref ro, .ref pl, .ref vl, .int (nI f), .ref pa, .ref pr])), (pa, .inl (cL, 240, .inr (.inl g_29))), (pr, .inl (cL, 48, .inr (.inl p9)))] H := hP
      have hD : va_D A [(mx, .inr (4, [.int th, .long sd, .int nt, .ref ro, .ref pl, .ref vl, .int (nI f), .ref pa, .ref pr])), (pa, .inl (cL, 240, .inr (.inl g_29))), (pr, .inl (cL, 48, .inr (.inl p9)))] := hD
      have hg_29 : g_29 = mr_les 6 0 g_28 := hg_29.trans (ir_eq _).symm
      refine lv_aload_n hx hb d_M_angle_174 rfl (lv_at hl 0 rfl) ?_
      refine lv_iconst (v := 0) hx hb d_M_angle_175 (by decide) ?_
      refine lv_bipush (v := 6) hx hb d_M_angle_176 (by decide) ?_
      refine cs_callv (va_runV (As := [.int 0, .int 6]) (rest := []) ⟨hx, hb, hml, hown, ha⟩ (c_M_copy l dC dI mx th sd nt ro pl vl f pa pr cL g_29 0 6 (by omega) (by omega) _) (cwV 2 ha g_M_M_copy rfl rfl rfl (by decide +kernel) ⟨Nat.le_trans (Nat.le_of_ble_eq_true rfl) hRf, Nat.le_trans (Nat.le_of_ble_eq_true rfl) hRl⟩) (ct_preV ct_G0ok trivial hK hP hD hS hA [0, 1] rfl (by decide) [0] rfl 0 4 rfl rfl rfl) rfl rfl hl.1 rfl (lv_room (Nat.le_of_ble_eq_true rfl)) d_M_angle_178 ⟨hRc, hRs⟩) hP hD hS hA [0, 1] rfl (by decide) (fun _ => rfl) (fun g_30 H locs hg_30 hP hD hS => ?_)
      have hP : va_P (dC, dI) cl9 [(mx, .inr (4, [.int th, .long sd, .int nt, .ref ro, .ref pl, .ref vl, .int (nI f), .ref pa, .ref pr])), (pa, .inl (cL, 240, .inr (.inl g_30))), (pr, .inl (cL, 48, .inr (.inl p9)))] H := hP
      have hD : va_D A [(mx, .inr (4, [.int th, .long sd, .int nt, .ref ro, .ref pl, .ref vl, .int (nI f), .ref pa, .ref pr])), (pa, .inl (cL, 240, .inr (.inl g_30))), (pr, .inl (cL, 48, .inr (.inl p9)))] := hD
      have hg_30 : g_30 = mr_cp 0 6 g_29 := hg_30.trans (ir_eq _).symm
      refine lv_aload_n hx hb d_M_angle_181 rfl (lv_at hl 0 rfl) ?_
      refine lv_iconst (v := 0) hx hb d_M_angle_182 (by decide) ?_
      refine lv_iload_n hx hb d_M_angle_183 rfl (lv_at hl 1 rfl) ?_
      refine lv_if_ge (tgt := 191) hx hb d_M_angle_184 (by decide) (fun hs_31 => ?_) (fun hs_31 => ?_)
      · refine lv_iconst (v := 0) hx hb d_M_angle_191 (by decide) ?_
        refine W.eq (g2 := F0 m 192 ls [.int (ng9 y), .int 0, .ref mx]) (congrArg (fun t => F0 m 192 ls [.int t, .int 0, .ref mx]) (show (0 : Int32) = ng9 y from (if_pos hs_31).symm)) ?_
        refine cs_calll (va_runV (As := [.int 0, .int (ng9 y)]) (rest := []) ⟨hx, hb, hml, hown, ha⟩ (c_M_told l dC dI mx th sd nt ro pl vl f pa pr cL g_30 0 (ng9 y) (by omega) (by omega) _) (cwV 2 ha g_M_M_told rfl rfl rfl (by decide +kernel) ⟨Nat.le_trans (Nat.le_of_ble_eq_true rfl) hRf, Nat.le_trans (Nat.le_of_ble_eq_true rfl) hRl⟩) (ct_preV ct_G0ok trivial hK hP hD hS hA [0, 1] rfl (by decide) [0] rfl 0 4 rfl rfl rfl) rfl rfl hl.1 rfl (lv_room (Nat.le_of_ble_eq_true rfl)) d_M_angle_192 ⟨hRc, hRs⟩) hP hD hS hA [0, 1] rfl (by decide) (fun _ => rfl) (fun v_33 g_32 H locs hg_32 hP hD hS => ?_)
        have hP : va_P (dC, dI) cl9 [(mx, .inr (4, [.int th, .long sd, .int nt, .ref ro, .ref pl, .ref vl, .int (nI f), .ref pa, .ref pr])), (pa, .inl (cL, 240, .inr (.inl g_32))), (pr, .inl (cL, 48, .inr (.inl p9)))] H := hP
        have hD : va_D A [(mx, .inr (4, [.int th, .long sd, .int nt, .ref ro, .ref pl, .ref vl, .int (nI f), .ref pa, .ref pr])), (pa, .inl (cL, 240, .inr (.inl g_32))), (pr, .inl (cL, 48, .inr (.inl p9)))] := hD
        obtain ⟨hg_32, hv_33⟩ := hg_32
        have eP : ag_P y x f g = g_32 := by rw [hg_32, hg_30, hg_29, hg_28, hg_21, hg_20, hg_19, hg_18, hg_1]; exact congrArg (mr_tim 0 1000000000) ((if_neg hs_22).trans (congrArg (fun G => mr_cp 0 6 (mr_les 6 0 (mr_cp 6 7 G))) (if_neg hs_2)))
        have eV : ag_V y x f g = v_33 := by show (if ng9 y = 0 then _ else _) = _; rw [eP]; exact (hv_33).symm
        exact K _ _ _ eP rfl eV _ _ _ hP hD hS (lv_sub hl [0, 1, 2, 3, 4] rfl)
      · refine lv_iconst (v := 1) hx hb d_M_angle_187 (by decide) ?_
        refine lv_goto (tgt := 192) hx hb d_M_angle_188 (by decide) ?_
        refine W.eq (g2 := F0 m 192 ls [.int (ng9 y), .int 0, .ref mx]) (congrArg (fun t => F0 m 192 ls [.int t, .int 0, .ref mx]) (show (1 : Int32) = ng9 y from (if_neg hs_31).symm)) ?_
        refine cs_calll (va_runV (As := [.int 0, .int (ng9 y)]) (rest := []) ⟨hx, hb, hml, hown, ha⟩ (c_M_told l dC dI mx th sd nt ro pl vl f pa pr cL g_30 0 (ng9 y) (by omega) (by omega) _) (cwV 2 ha g_M_M_told rfl rfl rfl (by decide +kernel) ⟨Nat.le_trans (Nat.le_of_ble_eq_true rfl) hRf, Nat.le_trans (Nat.le_of_ble_eq_true rfl) hRl⟩) (ct_preV ct_G0ok trivial hK hP hD hS hA [0, 1] rfl (by decide) [0] rfl 0 4 rfl rfl rfl) rfl rfl hl.1 rfl (lv_room (Nat.le_of_ble_eq_true rfl)) d_M_angle_192 ⟨hRc, hRs⟩) hP hD hS hA [0, 1] rfl (by decide) (fun _ => rfl) (fun v_35 g_34 H locs hg_34 hP hD hS => ?_)
        have hP : va_P (dC, dI) cl9 [(mx, .inr (4, [.int th, .long sd, .int nt, .ref ro, .ref pl, .ref vl, .int (nI f), .ref pa, .ref pr])), (pa, .inl (cL, 240, .inr (.inl g_34))), (pr, .inl (cL, 48, .inr (.inl p9)))] H := hP
        have hD : va_D A [(mx, .inr (4, [.int th, .long sd, .int nt, .ref ro, .ref pl, .ref vl, .int (nI f), .ref pa, .ref pr])), (pa, .inl (cL, 240, .inr (.inl g_34))), (pr, .inl (cL, 48, .inr (.inl p9)))] := hD
        obtain ⟨hg_34, hv_35⟩ := hg_34
        have eP : ag_P y x f g = g_34 := by rw [hg_34, hg_30, hg_29, hg_28, hg_21, hg_20, hg_19, hg_18, hg_1]; exact congrArg (mr_tim 0 1000000000) ((if_neg hs_22).trans (congrArg (fun G => mr_cp 0 6 (mr_les 6 0 (mr_cp 6 7 G))) (if_neg hs_2)))
        have eV : ag_V y x f g = v_35 := by show (if ng9 y = 0 then _ else _) = _; rw [eP]; exact (hv_35).symm
        exact K _ _ _ eP rfl eV _ _ _ hP hD hS (lv_sub hl [0, 1, 2, 3, 4] rfl)
set_option maxHeartbeats 4000000 in
set_option maxRecDepth 100000 in
/-- angle(y, x) -/
theorem c_M_angle (l : Launch) (dC : Nat → ClassId) (dI : Nat → Nat → Nat) (mx : Nat) (th : Int32) (sd : Int64) (nt : Int32) (ro : Nat) (pl : Nat) (vl : Nat) (f : Nat) (pa : Nat) (pr : Nat) (cL : ClassId) (g : Nat → Int64) (p9 : Nat → Int64) (y x : Int32) (hf9 : f ≤ 20) (sz : Nat) : ct_L l y_M_angle w_M_angle { frames := 4, cells := 0, slots := 0, locals := 140 } (dC, dI) cl9 [(cL, .long)] ct_G0 [.ref mx, .int y, .int x] [(mx, .inr (4, [.int th, .long sd, .int nt, .ref ro, .ref pl, .ref vl, .int (nI f), .ref pa, .ref pr])), (pa, .inl (cL, 240, .inr (.inl g))), (pr, .inl (cL, 48, .inr (.inl p9)))] sz (S := Int32 × Nat × S2) (fun v9 (u : Int32 × Nat × S2) => u.2.1 ≤ 20 ∧ u.1 = th_an y x ∧ v9 = vl_an y x g) (fun _ : Int32 × Nat × S2 => [(cL, .long)]) (fun u : Int32 × Nat × S2 => [(mx, .inr (4, [.int u.1, .long sd, .int nt, .ref ro, .ref pl, .ref vl, .int (nI u.2.1), .ref pa, .ref pr])), (pa, .inl (cL, 240, .inr (.inl u.2.2.1))), (pr, .inl (cL, 48, .inr (.inl u.2.2.2)))]) 0 0 := by
  refine ct_of (Qf := fun A => va_Ql (fun v9 (u : Int32 × Nat × S2) => u.2.1 ≤ 20 ∧ u.1 = th_an y x ∧ v9 = vl_an y x g) (ct_B (S := Int32 × Nat × S2) (dC, dI) cl9 (fun _ : Int32 × Nat × S2 => [(cL, .long)]) A (fun u : Int32 × Nat × S2 => [(mx, .inr (4, [.int u.1, .long sd, .int nt, .ref ro, .ref pl, .ref vl, .int (nI u.2.1), .ref pa, .ref pr])), (pa, .inl (cL, 240, .inr (.inl u.2.2.1))), (pr, .inl (cL, 48, .inr (.inl u.2.2.2)))])) A) (cc := b_M_angle) (maxL := 10) (ret := ((some .long))) (by decide) rfl (Nat.le_of_ble_eq_true rfl) ?_
  intro p e s m below meth c A ls hF hA hP hK hD hG hS hl
  obtain ⟨hx, hb, hr, hml, hts, hown, hlocks, hnm⟩ := id hF
  have hown : s.vm.findClass R_M = some m.cls := hown
  have ha : ∀ w ∈ al_M, w.before [.ref mx, .int y, .int x].toArray s = true := fun w h => hts w (List.mem_cons_of_mem _ h)
  have hl : lv_has ls 10 [(0, .ref mx), (1, .int y), (2, .int x)] := hl
  refine lv_aload_n hx hb d_M_angle_0 rfl (lv_at hl 0 rfl) ?_
  refine lv_iload_n hx hb d_M_angle_1 rfl (lv_at hl 1 rfl) ?_
  refine lv_ldc (v := (-1000000)) hx hb hown (ha _ wm_M_117) d_M_angle_2 ?_
  refine lv_icmp_lt (tgt := 25) hx hb d_M_angle_4 (by decide) (fun h1 => ?_) (fun h1 => ?_)
  · refine lv_iconst (v := 1) hx hb d_M_angle_25 (by decide) ?_
    refine lv_goto (tgt := 30) hx hb d_M_angle_26 (by decide) ?_
    refine va_put (D := (dC, dI)) (ci := 4) (v := .int 1) (ty := .int) (C := R_M) (T := F_M) (N := 9) hx hb ha ui_M ft_M tk_M nm_M hown hK hP hD hS 0 rfl rfl 0 (by decide) (ha _ wm_M_5) (fun _ h9 => h9) rfl (by decide +kernel) rfl rfl (Nat.le_of_ble_eq_true rfl) d_M_angle_30 (fun H locs hP hD hS => ?_)
    have hP : va_P (dC, dI) cl9 [(mx, .inr (4, [.int 1, .long sd, .int nt, .ref ro, .ref pl, .ref vl, .int (nI f), .ref pa, .ref pr])), (pa, .inl (cL, 240, .inr (.inl g))), (pr, .inl (cL, 48, .inr (.inl p9)))] H := hP
    have hD : va_D A [(mx, .inr (4, [.int 1, .long sd, .int nt, .ref ro, .ref pl, .ref vl, .int (nI f), .ref pa, .ref pr])), (pa, .inl (cL, 240, .inr (.inl g))), (pr, .inl (cL, 48, .inr (.inl p9)))] := hD
    refine lv_aload_n hx hb d_M_angle_33 rfl (lv_at hl 0 rfl) ?_
    refine va_get (D := (dC, dI)) (ci := 4) (v := .int 1) (C := R_M) (T := F_M) (N := 9) hx hb ha ui_M hown hK hP 0 rfl rfl 0 (by decide) (ha _ wm_M_5) (fun _ h9 => h9) rfl d_M_angle_34 ?_
    refine lv_if_le (tgt := 42) hx hb d_M_angle_37 (by decide) (fun hq => ?_) (fun hq => ?_)
    · exact absurd hq (by decide)
    · refine lv_lconst (v := 0) hx hb d_M_angle_40 (by decide) ?_
      exact ct_lret hF d_M_angle_41 (1, f, g, p9) ⟨hf9, (if_pos h1).symm, (if_pos h1).symm⟩ (hP.sub [0, 1, 2] rfl) (hD.sub [0, 1, 2] (by decide) rfl) hK hS
  · refine lv_iload_n hx hb d_M_angle_7 rfl (lv_at hl 1 rfl) ?_
    refine lv_ldc (v := 1000000) hx hb hown (ha _ wm_M_118) d_M_angle_8 ?_
    refine lv_icmp_gt (tgt := 25) hx hb d_M_angle_10 (by decide) (fun h2 => ?_) (fun h2 => ?_)
    · refine lv_iconst (v := 1) hx hb d_M_angle_25 (by decide) ?_
      refine lv_goto (tgt := 30) hx hb d_M_angle_26 (by decide) ?_
      refine va_put (D := (dC, dI)) (ci := 4) (v := .int 1) (ty := .int) (C := R_M) (T := F_M) (N := 9) hx hb ha ui_M ft_M tk_M nm_M hown hK hP hD hS 0 rfl rfl 0 (by decide) (ha _ wm_M_5) (fun _ h9 => h9) rfl (by decide +kernel) rfl rfl (Nat.le_of_ble_eq_true rfl) d_M_angle_30 (fun H locs hP hD hS => ?_)
      have hP : va_P (dC, dI) cl9 [(mx, .inr (4, [.int 1, .long sd, .int nt, .ref ro, .ref pl, .ref vl, .int (nI f), .ref pa, .ref pr])), (pa, .inl (cL, 240, .inr (.inl g))), (pr, .inl (cL, 48, .inr (.inl p9)))] H := hP
      have hD : va_D A [(mx, .inr (4, [.int 1, .long sd, .int nt, .ref ro, .ref pl, .ref vl, .int (nI f), .ref pa, .ref pr])), (pa, .inl (cL, 240, .inr (.inl g))), (pr, .inl (cL, 48, .inr (.inl p9)))] := hD
      refine lv_aload_n hx hb d_M_angle_33 rfl (lv_at hl 0 rfl) ?_
      refine va_get (D := (dC, dI)) (ci := 4) (v := .int 1) (C := R_M) (T := F_M) (N := 9) hx hb ha ui_M hown hK hP 0 rfl rfl 0 (by decide) (ha _ wm_M_5) (fun _ h9 => h9) rfl d_M_angle_34 ?_
      refine lv_if_le (tgt := 42) hx hb d_M_angle_37 (by decide) (fun hq => ?_) (fun hq => ?_)
      · exact absurd hq (by decide)
      · refine lv_lconst (v := 0) hx hb d_M_angle_40 (by decide) ?_
        exact ct_lret hF d_M_angle_41 (1, f, g, p9) ⟨hf9, ((if_neg h1).trans (if_pos h2)).symm, ((if_neg h1).trans (if_pos h2)).symm⟩ (hP.sub [0, 1, 2] rfl) (hD.sub [0, 1, 2] (by decide) rfl) hK hS
    · refine lv_iload_n hx hb d_M_angle_13 rfl (lv_at hl 2 rfl) ?_
      refine lv_ldc (v := (-1000000)) hx hb hown (ha _ wm_M_117) d_M_angle_14 ?_
      refine lv_icmp_lt (tgt := 25) hx hb d_M_angle_16 (by decide) (fun h3 => ?_) (fun h3 => ?_)
      · refine lv_iconst (v := 1) hx hb d_M_angle_25 (by decide) ?_
        refine lv_goto (tgt := 30) hx hb d_M_angle_26 (by decide) ?_
        refine va_put (D := (dC, dI)) (ci := 4) (v := .int 1) (ty := .int) (C := R_M) (T := F_M) (N := 9) hx hb ha ui_M ft_M tk_M nm_M hown hK hP hD hS 0 rfl rfl 0 (by decide) (ha _ wm_M_5) (fun _ h9 => h9) rfl (by decide +kernel) rfl rfl (Nat.le_of_ble_eq_true rfl) d_M_angle_30 (fun H locs hP hD hS => ?_)
        have hP : va_P (dC, dI) cl9 [(mx, .inr (4, [.int 1, .long sd, .int nt, .ref ro, .ref pl, .ref vl, .int (nI f), .ref pa, .ref pr])), (pa, .inl (cL, 240, .inr (.inl g))), (pr, .inl (cL, 48, .inr (.inl p9)))] H := hP
        have hD : va_D A [(mx, .inr (4, [.int 1, .long sd, .int nt, .ref ro, .ref pl, .ref vl, .int (nI f), .ref pa, .ref pr])), (pa, .inl (cL, 240, .inr (.inl g))), (pr, .inl (cL, 48, .inr (.inl p9)))] := hD
        refine lv_aload_n hx hb d_M_angle_33 rfl (lv_at hl 0 rfl) ?_
        refine va_get (D := (dC, dI)) (ci := 4) (v := .int 1) (C := R_M) (T := F_M) (N := 9) hx hb ha ui_M hown hK hP 0 rfl rfl 0 (by decide) (ha _ wm_M_5) (fun _ h9 => h9) rfl d_M_angle_34 ?_
        refine lv_if_le (tgt := 42) hx hb d_M_angle_37 (by decide) (fun hq => ?_) (fun hq => ?_)
        · exact absurd hq (by decide)
        · refine lv_lconst (v := 0) hx hb d_M_angle_40 (by decide) ?_
          exact ct_lret hF d_M_angle_41 (1, f, g, p9) ⟨hf9, ((if_neg h1).trans ((if_neg h2).trans (if_pos h3))).symm, ((if_neg h1).trans ((if_neg h2).trans (if_pos h3))).symm⟩ (hP.sub [0, 1, 2] rfl) (hD.sub [0, 1, 2] (by decide) rfl) hK hS
      · refine lv_iload_n hx hb d_M_angle_19 rfl (lv_at hl 2 rfl) ?_
        refine lv_ldc (v := 1000000) hx hb hown (ha _ wm_M_118) d_M_angle_20 ?_
        refine lv_icmp_le (tgt := 29) hx hb d_M_angle_22 (by decide) (fun h4 => ?_) (fun h4 => ?_)
        · refine lv_iconst (v := 0) hx hb d_M_angle_29 (by decide) ?_
          refine va_put (D := (dC, dI)) (ci := 4) (v := .int 0) (ty := .int) (C := R_M) (T := F_M) (N := 9) hx hb ha ui_M ft_M tk_M nm_M hown hK hP hD hS 0 rfl rfl 0 (by decide) (ha _ wm_M_5) (fun _ h9 => h9) rfl (by decide +kernel) rfl rfl (Nat.le_of_ble_eq_true rfl) d_M_angle_30 (fun H locs hP hD hS => ?_)
          have hP : va_P (dC, dI) cl9 [(mx, .inr (4, [.int 0, .long sd, .int nt, .ref ro, .ref pl, .ref vl, .int (nI f), .ref pa, .ref pr])), (pa, .inl (cL, 240, .inr (.inl g))), (pr, .inl (cL, 48, .inr (.inl p9)))] H := hP
          have hD : va_D A [(mx, .inr (4, [.int 0, .long sd, .int nt, .ref ro, .ref pl, .ref vl, .int (nI f), .ref pa, .ref pr])), (pa, .inl (cL, 240, .inr (.inl g))), (pr, .inl (cL, 48, .inr (.inl p9)))] := hD
          refine lv_aload_n hx hb d_M_angle_33 rfl (lv_at hl 0 rfl) ?_
          refine va_get (D := (dC, dI)) (ci := 4) (v := .int 0) (C := R_M) (T := F_M) (N := 9) hx hb ha ui_M hown hK hP 0 rfl rfl 0 (by decide) (ha _ wm_M_5) (fun _ h9 => h9) rfl d_M_angle_34 ?_
          refine lv_if_le (tgt := 42) hx hb d_M_angle_37 (by decide) (fun hq => ?_) (fun hq => ?_)
          · have ha9 := ab9_m h3 h4
            have hb9 := ab9_m h1 ((i32_le _ _).mpr (Int.not_lt.mp (fun q => h2 ((i32_lt _ _).mpr q))))
            refine lv_iload_n hx hb d_M_angle_42 rfl (lv_at hl 1 rfl) ?_
            refine lv_if_ne (tgt := 62) hx hb d_M_angle_43 (by decide) (fun hy => ?_) (fun hy => ?_)
            · have hpos : 0 < (ab9 x).toInt ∨ 0 < (ab9 y).toInt := Or.inr (ab9_p h1 hy)
              refine lv_iload_n hx hb d_M_angle_62 rfl (lv_at hl 2 rfl) ?_
              refine lv_if_ge (tgt := 72) hx hb d_M_angle_63 (by decide) (fun hs_36 => ?_) (fun hs_36 => ?_)
              · refine lv_iload_n hx hb d_M_angle_72 rfl (lv_at hl 2 rfl) ?_
                refine lv_i2l hx hb d_M_angle_73 rfl ?_
                rw [show ((x : Int32).toInt64 : Int64) = ab9 x from (if_pos hs_36).symm]
                refine lv_lstore_n (lv' := [(3, .long (ab9 x)), (0, .ref mx), (1, .int y), (2, .int x)]) hx hb d_M_angle_74 rfl hl (by decide) rfl (fun ls hl => ?_)
                refine lv_iload_n hx hb d_M_angle_75 rfl (lv_at hl 2 rfl) ?_
                refine lv_if_ge (tgt := 85) hx hb d_M_angle_76 (by decide) (fun hs_37 => ?_) (fun hs_37 => ?_)
                · refine lv_iload_n hx hb d_M_angle_85 rfl (lv_at hl 2 rfl) ?_
                  refine lv_i2l hx hb d_M_angle_86 rfl ?_
                  rw [show ((y : Int32).toInt64 : Int64) = ab9 y from (if_pos hs_37).symm]
                  refine lv_lstore (lv' := [(5, .long (ab9 y)), (3, .long (ab9 x)), (0, .ref mx), (1, .int y), (2, .int x)]) hx hb d_M_angle_87 hl (by decide) rfl (fun ls hl => ?_)
                  refine lv_lconst (v := 0) hx hb d_M_angle_89 (by decide) ?_
                  refine lv_lstore (lv' := [(7, .long 0), (5, .long (ab9 y)), (3, .long (ab9 x)), (0, .ref mx), (1, .int y), (2, .int x)]) hx hb d_M_angle_90 hl (by decide) rfl (fun ls hl => ?_)
                  refine lv_iconst (v := 1) hx hb d_M_angle_92 (by decide) ?_
                  refine lv_istore (lv' := [(9, .int 1), (7, .long 0), (5, .long (ab9 y)), (3, .long (ab9 x)), (0, .ref mx), (1, .int y), (2, .int x)]) hx hb d_M_angle_93 hl (by decide) rfl (fun ls hl => ?_)
                  refine lv_aload_n hx hb d_M_angle_95 rfl (lv_at hl 4 rfl) ?_
                  refine lv_bipush (v := 11) hx hb d_M_angle_96 (by decide) ?_
                  refine va_put (D := (dC, dI)) (ci := 4) (v := .int 11) (ty := .int) (C := R_M) (T := F_M) (N := 9) hx hb ha ui_M ft_M tk_M nm_M hown hK hP hD hS 0 rfl rfl 6 (by decide) (ha _ wm_M_11) (fun _ h9 => h9) rfl (by decide +kernel) rfl rfl (Nat.le_of_ble_eq_true rfl) d_M_angle_98 (fun H locs hP hD hS => ?_)
                  have hP : va_P (dC, dI) cl9 [(mx, .inr (4, [.int 0, .long sd, .int nt, .ref ro, .ref pl, .ref vl, .int 11, .ref pa, .ref pr])), (pa, .inl (cL, 240, .inr (.inl g))), (pr, .inl (cL, 48, .inr (.inl p9)))] H := hP
                  have hD : va_D A [(mx, .inr (4, [.int 0, .long sd, .int nt, .ref ro, .ref pl, .ref vl, .int 11, .ref pa, .ref pr])), (pa, .inl (cL, 240, .inr (.inl g))), (pr, .inl (cL, 48, .inr (.inl p9)))] := hD
                  have hP : va_P (dC, dI) cl9 [(mx, .inr (4, [.int 0, .long sd, .int nt, .ref ro, .ref pl, .ref vl, .int (nI 11), .ref pa, .ref pr])), (pa, .inl (cL, 240, .inr (.inl g))), (pr, .inl (cL, 48, .inr (.inl p9)))] H := hP
                  have hD : va_D A [(mx, .inr (4, [.int 0, .long sd, .int nt, .ref ro, .ref pl, .ref vl, .int (nI 11), .ref pa, .ref pr])), (pa, .inl (cL, 240, .inr (.inl g))), (pr, .inl (cL, 48, .inr (.inl p9)))] := hD
                  refine lv_iload hx hb d_M_angle_101 (lv_at hl 0 rfl) ?_
                  refine lv_if_eq (tgt := 213) hx hb d_M_angle_103 (by decide) (fun hq1 => ?_) (fun hq1 => ?_)
                  · exact absurd hq1 (by decide)
                  · refine ps_M_angle (R := { frames := 4, cells := 0, slots := 0, locals := 140 }) (cells := 0) (slots := 0) (mx := mx) (th := 0) (sd := sd) (nt := nt) (ro := ro) (pl := pl) (vl := vl) (f := 11) (pa := pa) (pr := pr) (cL := cL) (g := g) (p9 := p9) (y := y) (x := x) hF hA hK (Nat.le_of_ble_eq_true rfl) (Nat.le_of_ble_eq_true rfl) (Nat.le_of_ble_eq_true rfl) (Nat.le_of_ble_eq_true rfl) (by decide) ha9 hb9 hpos (fun g6 p6 v6 eP6 ep6 eV6 H locs ls hP hD hS hl => ?_) _ _ _ hP hD hS (lv_sub hl [4, 5, 6, 3, 2] rfl)
                    refine lv_lstore (lv' := [(7, .long v6), (0, .ref mx), (1, .int y), (2, .int x), (3, .long (ab9 x)), (5, .long (ab9 y))]) hx hb d_M_angle_195 hl (by decide) rfl (fun ls hl => ?_)
                    refine lv_aload_n hx hb d_M_angle_197 rfl (lv_at hl 1 rfl) ?_
                    refine lv_iconst (v := 0) hx hb d_M_angle_198 (by decide) ?_
                    refine cs_calli (va_runV (As := [.int 0]) (rest := []) ⟨hx, hb, hml, hown, ha⟩ (c_M_isOpen l dC dI mx 0 sd nt ro pl vl pa pr cL g6 0 (by omega) _) (cwV 1 ha g_M_M_isOpen rfl rfl rfl (by decide +kernel) ⟨Nat.le_of_ble_eq_true rfl, Nat.le_of_ble_eq_true rfl⟩) (ct_preV ct_G0ok trivial hK hP hD hS hA [0, 1] rfl (by decide) [0] rfl 0 4 rfl rfl rfl) rfl rfl hl.1 rfl (lv_room (Nat.le_of_ble_eq_true rfl)) d_M_angle_199 ⟨Nat.le_of_ble_eq_true rfl, Nat.le_of_ble_eq_true rfl⟩) hP hD hS hA [0, 1] rfl (by decide) (fun _ => rfl) (fun o_38 u7 H locs ho_38 hP hD hS => ?_)
                    have hP : va_P (dC, dI) cl9 [(mx, .inr (4, [.int 0, .long sd, .int nt, .ref ro, .ref pl, .ref vl, .int (nI 11), .ref pa, .ref pr])), (pa, .inl (cL, 240, .inr (.inl g6))), (pr, .inl (cL, 48, .inr (.inl p6)))] H := hP
                    have hD : va_D A [(mx, .inr (4, [.int 0, .long sd, .int nt, .ref ro, .ref pl, .ref vl, .int (nI 11), .ref pa, .ref pr])), (pa, .inl (cL, 240, .inr (.inl g6))), (pr, .inl (cL, 48, .inr (.inl p6)))] := hD
                    refine lv_istore (lv' := [(9, .int o_38), (7, .long v6), (0, .ref mx), (1, .int y), (2, .int x), (3, .long (ab9 x)), (5, .long (ab9 y))]) hx hb d_M_angle_202 hl (by decide) rfl (fun ls hl => ?_)
                    refine lv_aload_n hx hb d_M_angle_204 rfl (lv_at hl 2 rfl) ?_
                    refine lv_bipush (v := 17) hx hb d_M_angle_205 (by decide) ?_
                    refine va_put (D := (dC, dI)) (ci := 4) (v := .int 17) (ty := .int) (C := R_M) (T := F_M) (N := 9) hx hb ha ui_M ft_M tk_M nm_M hown hK hP hD hS 0 rfl rfl 6 (by decide) (ha _ wm_M_11) (fun _ h9 => h9) rfl (by decide +kernel) rfl rfl (Nat.le_of_ble_eq_true rfl) d_M_angle_207 (fun H locs hP hD hS => ?_)
                    have hP : va_P (dC, dI) cl9 [(mx, .inr (4, [.int 0, .long sd, .int nt, .ref ro, .ref pl, .ref vl, .int 17, .ref pa, .ref pr])), (pa, .inl (cL, 240, .inr (.inl g6))), (pr, .inl (cL, 48, .inr (.inl p6)))] H := hP
                    have hD : va_D A [(mx, .inr (4, [.int 0, .long sd, .int nt, .ref ro, .ref pl, .ref vl, .int 17, .ref pa, .ref pr])), (pa, .inl (cL, 240, .inr (.inl g6))), (pr, .inl (cL, 48, .inr (.inl p6)))] := hD
                    have hP : va_P (dC, dI) cl9 [(mx, .inr (4, [.int 0, .long sd, .int nt, .ref ro, .ref pl, .ref vl, .int (nI 17), .ref pa, .ref pr])), (pa, .inl (cL, 240, .inr (.inl g6))), (pr, .inl (cL, 48, .inr (.inl p6)))] H := hP
                    have hD : va_D A [(mx, .inr (4, [.int 0, .long sd, .int nt, .ref ro, .ref pl, .ref vl, .int (nI 17), .ref pa, .ref pr])), (pa, .inl (cL, 240, .inr (.inl g6))), (pr, .inl (cL, 48, .inr (.inl p6)))] := hD
                    refine lv_goto (tgt := 101) hx hb d_M_angle_210 (by decide) ?_
                    refine lv_iload hx hb d_M_angle_101 (lv_at hl 0 rfl) ?_
                    refine lv_if_eq (tgt := 213) hx hb d_M_angle_103 (by decide) (fun ho => ?_) (fun ho => ?_)
                    · refine lv_lload hx hb d_M_angle_213 (lv_at hl 1 rfl) ?_
                      exact ct_lret hF d_M_angle_215 (0, 17, g6, p6) ⟨(show (17 : Nat) ≤ 20 by decide), ((if_neg h1).trans ((if_neg h2).trans ((if_neg h3).trans (if_pos h4)))).symm, ((if_neg h1).trans ((if_neg h2).trans ((if_neg h3).trans ((if_pos h4).trans ((if_neg hy).trans ((if_pos (by rw [eP6]; exact ho_38.symm.trans ho)).trans eV6)))))).symm⟩ (hP.sub [0, 1, 2] rfl) (hD.sub [0, 1, 2] (by decide) rfl) hK hS
                    · have ho2 : ¬ md_op 0 g6 = 0 := fun q => ho (ho_38.trans q)
                      refine ps_M_angle (R := { frames := 4, cells := 0, slots := 0, locals := 140 }) (cells := 0) (slots := 0) (mx := mx) (th := 0) (sd := sd) (nt := nt) (ro := ro) (pl := pl) (vl := vl) (f := 17) (pa := pa) (pr := pr) (cL := cL) (g := g6) (p9 := p6) (y := y) (x := x) hF hA hK (Nat.le_of_ble_eq_true rfl) (Nat.le_of_ble_eq_true rfl) (Nat.le_of_ble_eq_true rfl) (Nat.le_of_ble_eq_true rfl) (by decide) ha9 hb9 hpos (fun g7 p7 v7 eP7 ep7 eV7 H locs ls hP hD hS hl => ?_) _ _ _ hP hD hS (lv_sub hl [2, 3, 4, 5, 6] rfl)
                      refine lv_lstore (lv' := [(7, .long v7), (0, .ref mx), (1, .int y), (2, .int x), (3, .long (ab9 x)), (5, .long (ab9 y))]) hx hb d_M_angle_195 hl (by decide) rfl (fun ls hl => ?_)
                      refine lv_aload_n hx hb d_M_angle_197 rfl (lv_at hl 1 rfl) ?_
                      refine lv_iconst (v := 0) hx hb d_M_angle_198 (by decide) ?_
                      refine cs_calli (va_runV (As := [.int 0]) (rest := []) ⟨hx, hb, hml, hown, ha⟩ (c_M_isOpen17 l dC dI mx 0 sd nt ro pl vl pa pr cL g7 0 (by omega) _) (cwV 1 ha g_M_M_isOpen rfl rfl rfl (by decide +kernel) ⟨Nat.le_of_ble_eq_true rfl, Nat.le_of_ble_eq_true rfl⟩) (ct_preV ct_G0ok trivial hK hP hD hS hA [0, 1] rfl (by decide) [0] rfl 0 4 rfl rfl rfl) rfl rfl hl.1 rfl (lv_room (Nat.le_of_ble_eq_true rfl)) d_M_angle_199 ⟨Nat.le_of_ble_eq_true rfl, Nat.le_of_ble_eq_true rfl⟩) hP hD hS hA [0, 1] rfl (by decide) (fun _ => rfl) (fun o_39 u7 H locs ho_39 hP hD hS => ?_)
                      have hP : va_P (dC, dI) cl9 [(mx, .inr (4, [.int 0, .long sd, .int nt, .ref ro, .ref pl, .ref vl, .int (nI 17), .ref pa, .ref pr])), (pa, .inl (cL, 240, .inr (.inl g7))), (pr, .inl (cL, 48, .inr (.inl p7)))] H := hP
                      have hD : va_D A [(mx, .inr (4, [.int 0, .long sd, .int nt, .ref ro, .ref pl, .ref vl, .int (nI 17), .ref pa, .ref pr])), (pa, .inl (cL, 240, .inr (.inl g7))), (pr, .inl (cL, 48, .inr (.inl p7)))] := hD
                      refine lv_istore (lv' := [(9, .int o_39), (7, .long v7), (0, .ref mx), (1, .int y), (2, .int x), (3, .long (ab9 x)), (5, .long (ab9 y))]) hx hb d_M_angle_202 hl (by decide) rfl (fun ls hl => ?_)
                      refine lv_aload_n hx hb d_M_angle_204 rfl (lv_at hl 2 rfl) ?_
                      refine lv_bipush (v := 17) hx hb d_M_angle_205 (by decide) ?_
                      refine va_put (D := (dC, dI)) (ci := 4) (v := .int 17) (ty := .int) (C := R_M) (T := F_M) (N := 9) hx hb ha ui_M ft_M tk_M nm_M hown hK hP hD hS 0 rfl rfl 6 (by decide) (ha _ wm_M_11) (fun _ h9 => h9) rfl (by decide +kernel) rfl rfl (Nat.le_of_ble_eq_true rfl) d_M_angle_207 (fun H locs hP hD hS => ?_)
                      have hP : va_P (dC, dI) cl9 [(mx, .inr (4, [.int 0, .long sd, .int nt, .ref ro, .ref pl, .ref vl, .int 17, .ref pa, .ref pr])), (pa, .inl (cL, 240, .inr (.inl g7))), (pr, .inl (cL, 48, .inr (.inl p7)))] H := hP
                      have hD : va_D A [(mx, .inr (4, [.int 0, .long sd, .int nt, .ref ro, .ref pl, .ref vl, .int 17, .ref pa, .ref pr])), (pa, .inl (cL, 240, .inr (.inl g7))), (pr, .inl (cL, 48, .inr (.inl p7)))] := hD
                      have hP : va_P (dC, dI) cl9 [(mx, .inr (4, [.int 0, .long sd, .int nt, .ref ro, .ref pl, .ref vl, .int (nI 17), .ref pa, .ref pr])), (pa, .inl (cL, 240, .inr (.inl g7))), (pr, .inl (cL, 48, .inr (.inl p7)))] H := hP
                      have hD : va_D A [(mx, .inr (4, [.int 0, .long sd, .int nt, .ref ro, .ref pl, .ref vl, .int (nI 17), .ref pa, .ref pr])), (pa, .inl (cL, 240, .inr (.inl g7))), (pr, .inl (cL, 48, .inr (.inl p7)))] := hD
                      refine lv_goto (tgt := 101) hx hb d_M_angle_210 (by decide) ?_
                      refine lv_iload hx hb d_M_angle_101 (lv_at hl 0 rfl) ?_
                      refine lv_if_eq (tgt := 213) hx hb d_M_angle_103 (by decide) (fun ho3 => ?_) (fun ho3 => ?_)
                      · refine lv_lload hx hb d_M_angle_213 (lv_at hl 1 rfl) ?_
                        exact ct_lret hF d_M_angle_215 (0, 17, g7, p7) ⟨(show (17 : Nat) ≤ 20 by decide), ((if_neg h1).trans ((if_neg h2).trans ((if_neg h3).trans (if_pos h4)))).symm, ((if_neg h1).trans ((if_neg h2).trans ((if_neg h3).trans ((if_pos h4).trans ((if_neg hy).trans ((if_neg (by rw [eP6]; exact ho2)).trans (by rw [eP6]; exact eV7))))))).symm⟩ (hP.sub [0, 1, 2] rfl) (hD.sub [0, 1, 2] (by decide) rfl) hK hS
                      · exact absurd ho_39 ho3
                · refine lv_iload_n hx hb d_M_angle_79 rfl (lv_at hl 2 rfl) ?_
                  refine lv_ineg hx hb d_M_angle_80 ?_
                  refine lv_i2l hx hb d_M_angle_81 rfl ?_
                  refine lv_goto (tgt := 87) hx hb d_M_angle_82 (by decide) ?_
                  rw [show (((-y) : Int32).toInt64 : Int64) = ab9 y from (if_neg hs_37).symm]
                  refine lv_lstore (lv' := [(5, .long (ab9 y)), (3, .long (ab9 x)), (0, .ref mx), (1, .int y), (2, .int x)]) hx hb d_M_angle_87 hl (by decide) rfl (fun ls hl => ?_)
                  refine lv_lconst (v := 0) hx hb d_M_angle_89 (by decide) ?_
                  refine lv_lstore (lv' := [(7, .long 0), (5, .long (ab9 y)), (3, .long (ab9 x)), (0, .ref mx), (1, .int y), (2, .int x)]) hx hb d_M_angle_90 hl (by decide) rfl (fun ls hl => ?_)
                  refine lv_iconst (v := 1) hx hb d_M_angle_92 (by decide) ?_
                  refine lv_istore (lv' := [(9, .int 1), (7, .long 0), (5, .long (ab9 y)), (3, .long (ab9 x)), (0, .ref mx), (1, .int y), (2, .int x)]) hx hb d_M_angle_93 hl (by decide) rfl (fun ls hl => ?_)
                  refine lv_aload_n hx hb d_M_angle_95 rfl (lv_at hl 4 rfl) ?_
                  refine lv_bipush (v := 11) hx hb d_M_angle_96 (by decide) ?_
                  refine va_put (D := (dC, dI)) (ci := 4) (v := .int 11) (ty := .int) (C := R_M) (T := F_M) (N := 9) hx hb ha ui_M ft_M tk_M nm_M hown hK hP hD hS 0 rfl rfl 6 (by decide) (ha _ wm_M_11) (fun _ h9 => h9) rfl (by decide +kernel) rfl rfl (Nat.le_of_ble_eq_true rfl) d_M_angle_98 (fun H locs hP hD hS => ?_)
                  have hP : va_P (dC, dI) cl9 [(mx, .inr (4, [.int 0, .long sd, .int nt, .ref ro, .ref pl, .ref vl, .int 11, .ref pa, .ref pr])), (pa, .inl (cL, 240, .inr (.inl g))), (pr, .inl (cL, 48, .inr (.inl p9)))] H := hP
                  have hD : va_D A [(mx, .inr (4, [.int 0, .long sd, .int nt, .ref ro, .ref pl, .ref vl, .int 11, .ref pa, .ref pr])), (pa, .inl (cL, 240, .inr (.inl g))), (pr, .inl (cL, 48, .inr (.inl p9)))] := hD
                  have hP : va_P (dC, dI) cl9 [(mx, .inr (4, [.int 0, .long sd, .int nt, .ref ro, .ref pl, .ref vl, .int (nI 11), .ref pa, .ref pr])), (pa, .inl (cL, 240, .inr (.inl g))), (pr, .inl (cL, 48, .inr (.inl p9)))] H := hP
                  have hD : va_D A [(mx, .inr (4, [.int 0, .long sd, .int nt, .ref ro, .ref pl, .ref vl, .int (nI 11), .ref pa, .ref pr])), (pa, .inl (cL, 240, .inr (.inl g))), (pr, .inl (cL, 48, .inr (.inl p9)))] := hD
                  refine lv_iload hx hb d_M_angle_101 (lv_at hl 0 rfl) ?_
                  refine lv_if_eq (tgt := 213) hx hb d_M_angle_103 (by decide) (fun hq1 => ?_) (fun hq1 => ?_)
                  · exact absurd hq1 (by decide)
                  · refine ps_M_angle (R := { frames := 4, cells := 0, slots := 0, locals := 140 }) (cells := 0) (slots := 0) (mx := mx) (th := 0) (sd := sd) (nt := nt) (ro := ro) (pl := pl) (vl := vl) (f := 11) (pa := pa) (pr := pr) (cL := cL) (g := g) (p9 := p9) (y := y) (x := x) hF hA hK (Nat.le_of_ble_eq_true rfl) (Nat.le_of_ble_eq_true rfl) (Nat.le_of_ble_eq_true rfl) (Nat.le_of_ble_eq_true rfl) (by decide) ha9 hb9 hpos (fun g6 p6 v6 eP6 ep6 eV6 H locs ls hP hD hS hl => ?_) _ _ _ hP hD hS (lv_sub hl [4, 5, 6, 3, 2] rfl)
                    refine lv_lstore (lv' := [(7, .long v6), (0, .ref mx), (1, .int y), (2, .int x), (3, .long (ab9 x)), (5, .long (ab9 y))]) hx hb d_M_angle_195 hl (by decide) rfl (fun ls hl => ?_)
                    refine lv_aload_n hx hb d_M_angle_197 rfl (lv_at hl 1 rfl) ?_
                    refine lv_iconst (v := 0) hx hb d_M_angle_198 (by decide) ?_
                    refine cs_calli (va_runV (As := [.int 0]) (rest := []) ⟨hx, hb, hml, hown, ha⟩ (c_M_isOpen l dC dI mx 0 sd nt ro pl vl pa pr cL g6 0 (by omega) _) (cwV 1 ha g_M_M_isOpen rfl rfl rfl (by decide +kernel) ⟨Nat.le_of_ble_eq_true rfl, Nat.le_of_ble_eq_true rfl⟩) (ct_preV ct_G0ok trivial hK hP hD hS hA [0, 1] rfl (by decide) [0] rfl 0 4 rfl rfl rfl) rfl rfl hl.1 rfl (lv_room (Nat.le_of_ble_eq_true rfl)) d_M_angle_199 ⟨Nat.le_of_ble_eq_true rfl, Nat.le_of_ble_eq_true rfl⟩) hP hD hS hA [0, 1] rfl (by decide) (fun _ => rfl) (fun o_40 u7 H locs ho_40 hP hD hS => ?_)
                    have hP : va_P (dC, dI) cl9 [(mx, .inr (4, [.int 0, .long sd, .int nt, .ref ro, .ref pl, .ref vl, .int (nI 11), .ref pa, .ref pr])), (pa, .inl (cL, 240, .inr (.inl g6))), (pr, .inl (cL, 48, .inr (.inl p6)))] H := hP
                    have hD : va_D A [(mx, .inr (4, [.int 0, .long sd, .int nt, .ref ro, .ref pl, .ref vl, .int (nI 11), .ref pa, .ref pr])), (pa, .inl (cL, 240, .inr (.inl g6))), (pr, .inl (cL, 48, .inr (.inl p6)))] := hD
                    refine lv_istore (lv' := [(9, .int o_40), (7, .long v6), (0, .ref mx), (1, .int y), (2, .int x), (3, .long (ab9 x)), (5, .long (ab9 y))]) hx hb d_M_angle_202 hl (by decide) rfl (fun ls hl => ?_)
                    refine lv_aload_n hx hb d_M_angle_204 rfl (lv_at hl 2 rfl) ?_
                    refine lv_bipush (v := 17) hx hb d_M_angle_205 (by decide) ?_
                    refine va_put (D := (dC, dI)) (ci := 4) (v := .int 17) (ty := .int) (C := R_M) (T := F_M) (N := 9) hx hb ha ui_M ft_M tk_M nm_M hown hK hP hD hS 0 rfl rfl 6 (by decide) (ha _ wm_M_11) (fun _ h9 => h9) rfl (by decide +kernel) rfl rfl (Nat.le_of_ble_eq_true rfl) d_M_angle_207 (fun H locs hP hD hS => ?_)
                    have hP : va_P (dC, dI) cl9 [(mx, .inr (4, [.int 0, .long sd, .int nt, .ref ro, .ref pl, .ref vl, .int 17, .ref pa, .ref pr])), (pa, .inl (cL, 240, .inr (.inl g6))), (pr, .inl (cL, 48, .inr (.inl p6)))] H := hP
                    have hD : va_D A [(mx, .inr (4, [.int 0, .long sd, .int nt, .ref ro, .ref pl, .ref vl, .int 17, .ref pa, .ref pr])), (pa, .inl (cL, 240, .inr (.inl g6))), (pr, .inl (cL, 48, .inr (.inl p6)))] := hD
                    have hP : va_P (dC, dI) cl9 [(mx, .inr (4, [.int 0, .long sd, .int nt, .ref ro, .ref pl, .ref vl, .int (nI 17), .ref pa, .ref pr])), (pa, .inl (cL, 240, .inr (.inl g6))), (pr, .inl (cL, 48, .inr (.inl p6)))] H := hP
                    have hD : va_D A [(mx, .inr (4, [.int 0, .long sd, .int nt, .ref ro, .ref pl, .ref vl, .int (nI 17), .ref pa, .ref pr])), (pa, .inl (cL, 240, .inr (.inl g6))), (pr, .inl (cL, 48, .inr (.inl p6)))] := hD
                    refine lv_goto (tgt := 101) hx hb d_M_angle_210 (by decide) ?_
                    refine lv_iload hx hb d_M_angle_101 (lv_at hl 0 rfl) ?_
                    refine lv_if_eq (tgt := 213) hx hb d_M_angle_103 (by decide) (fun ho => ?_) (fun ho => ?_)
                    · refine lv_lload hx hb d_M_angle_213 (lv_at hl 1 rfl) ?_
                      exact ct_lret hF d_M_angle_215 (0, 17, g6, p6) ⟨(show (17 : Nat) ≤ 20 by decide), ((if_neg h1).trans ((if_neg h2).trans ((if_neg h3).trans (if_pos h4)))).symm, ((if_neg h1).trans ((if_neg h2).trans ((if_neg h3).trans ((if_pos h4).trans ((if_neg hy).trans ((if_pos (by rw [eP6]; exact ho_40.symm.trans ho)).trans eV6)))))).symm⟩ (hP.sub [0, 1, 2] rfl) (hD.sub [0, 1, 2] (by decide) rfl) hK hS
                    · have ho2 : ¬ md_op 0 g6 = 0 := fun q => ho (ho_40.trans q)
                      refine ps_M_angle (R := { frames := 4, cells := 0, slots := 0, locals := 140 }) (cells := 0) (slots := 0) (mx := mx) (th := 0) (sd := sd) (nt := nt) (ro := ro) (pl := pl) (vl := vl) (f := 17) (pa := pa) (pr := pr) (cL := cL) (g := g6) (p9 := p6) (y := y) (x := x) hF hA hK (Nat.le_of_ble_eq_true rfl) (Nat.le_of_ble_eq_true rfl) (Nat.le_of_ble_eq_true rfl) (Nat.le_of_ble_eq_true rfl) (by decide) ha9 hb9 hpos (fun g7 p7 v7 eP7 ep7 eV7 H locs ls hP hD hS hl => ?_) _ _ _ hP hD hS (lv_sub hl [2, 3, 4, 5, 6] rfl)
                      refine lv_lstore (lv' := [(7, .long v7), (0, .ref mx), (1, .int y), (2, .int x), (3, .long (ab9 x)), (5, .long (ab9 y))]) hx hb d_M_angle_195 hl (by decide) rfl (fun ls hl => ?_)
                      refine lv_aload_n hx hb d_M_angle_197 rfl (lv_at hl 1 rfl) ?_
                      refine lv_iconst (v := 0) hx hb d_M_angle_198 (by decide) ?_
                      refine cs_calli (va_runV (As := [.int 0]) (rest := []) ⟨hx, hb, hml, hown, ha⟩ (c_M_isOpen17 l dC dI mx 0 sd nt ro pl vl pa pr cL g7 0 (by omega) _) (cwV 1 ha g_M_M_isOpen rfl rfl rfl (by decide +kernel) ⟨Nat.le_of_ble_eq_true rfl, Nat.le_of_ble_eq_true rfl⟩) (ct_preV ct_G0ok trivial hK hP hD hS hA [0, 1] rfl (by decide) [0] rfl 0 4 rfl rfl rfl) rfl rfl hl.1 rfl (lv_room (Nat.le_of_ble_eq_true rfl)) d_M_angle_199 ⟨Nat.le_of_ble_eq_true rfl, Nat.le_of_ble_eq_true rfl⟩) hP hD hS hA [0, 1] rfl (by decide) (fun _ => rfl) (fun o_41 u7 H locs ho_41 hP hD hS => ?_)
                      have hP : va_P (dC, dI) cl9 [(mx, .inr (4, [.int 0, .long sd, .int nt, .ref ro, .ref pl, .ref vl, .int (nI 17), .ref pa, .ref pr])), (pa, .inl (cL, 240, .inr (.inl g7))), (pr, .inl (cL, 48, .inr (.inl p7)))] H := hP
                      have hD : va_D A [(mx, .inr (4, [.int 0, .long sd, .int nt, .ref ro, .ref pl, .ref vl, .int (nI 17), .ref pa, .ref pr])), (pa, .inl (cL, 240, .inr (.inl g7))), (pr, .inl (cL, 48, .inr (.inl p7)))] := hD
                      refine lv_istore (lv' := [(9, .int o_41), (7, .long v7), (0, .ref mx), (1, .int y), (2, .int x), (3, .long (ab9 x)), (5, .long (ab9 y))]) hx hb d_M_angle_202 hl (by decide) rfl (fun ls hl => ?_)
                      refine lv_aload_n hx hb d_M_angle_204 rfl (lv_at hl 2 rfl) ?_
                      refine lv_bipush (v := 17) hx hb d_M_angle_205 (by decide) ?_
                      refine va_put (D := (dC, dI)) (ci := 4) (v := .int 17) (ty := .int) (C := R_M) (T := F_M) (N := 9) hx hb ha ui_M ft_M tk_M nm_M hown hK hP hD hS 0 rfl rfl 6 (by decide) (ha _ wm_M_11) (fun _ h9 => h9) rfl (by decide +kernel) rfl rfl (Nat.le_of_ble_eq_true rfl) d_M_angle_207 (fun H locs hP hD hS => ?_)
                      have hP : va_P (dC, dI) cl9 [(mx, .inr (4, [.int 0, .long sd, .int nt, .ref ro, .ref pl, .ref vl, .int 17, .ref pa, .ref pr])), (pa, .inl (cL, 240, .inr (.inl g7))), (pr, .inl (cL, 48, .inr (.inl p7)))] H := hP
                      have hD : va_D A [(mx, .inr (4, [.int 0, .long sd, .int nt, .ref ro, .ref pl, .ref vl, .int 17, .ref pa, .ref pr])), (pa, .inl (cL, 240, .inr (.inl g7))), (pr, .inl (cL, 48, .inr (.inl p7)))] := hD
                      have hP : va_P (dC, dI) cl9 [(mx, .inr (4, [.int 0, .long sd, .int nt, .ref ro, .ref pl, .ref vl, .int (nI 17), .ref pa, .ref pr])), (pa, .inl (cL, 240, .inr (.inl g7))), (pr, .inl (cL, 48, .inr (.inl p7)))] H := hP
                      have hD : va_D A [(mx, .inr (4, [.int 0, .long sd, .int nt, .ref ro, .ref pl, .ref vl, .int (nI 17), .ref pa, .ref pr])), (pa, .inl (cL, 240, .inr (.inl g7))), (pr, .inl (cL, 48, .inr (.inl p7)))] := hD
                      refine lv_goto (tgt := 101) hx hb d_M_angle_210 (by decide) ?_
                      refine lv_iload hx hb d_M_angle_101 (lv_at hl 0 rfl) ?_
                      refine lv_if_eq (tgt := 213) hx hb d_M_angle_103 (by decide) (fun ho3 => ?_) (fun ho3 => ?_)
                      · refine lv_lload hx hb d_M_angle_213 (lv_at hl 1 rfl) ?_
                        exact ct_lret hF d_M_angle_215 (0, 17, g7, p7) ⟨(show (17 : Nat) ≤ 20 by decide), ((if_neg h1).trans ((if_neg h2).trans ((if_neg h3).trans (if_pos h4)))).symm, ((if_neg h1).trans ((if_neg h2).trans ((if_neg h3).trans ((if_pos h4).trans ((if_neg hy).trans ((if_neg (by rw [eP6]; exact ho2)).trans (by rw [eP6]; exact eV7))))))).symm⟩ (hP.sub [0, 1, 2] rfl) (hD.sub [0, 1, 2] (by decide) rfl) hK hS
                      · exact absurd ho_41 ho3
              · refine lv_iload_n hx hb d_M_angle_66 rfl (lv_at hl 2 rfl) ?_
                refine lv_ineg hx hb d_M_angle_67 ?_
                refine lv_i2l hx hb d_M_angle_68 rfl ?_
                refine lv_goto (tgt := 74) hx hb d_M_angle_69 (by decide) ?_
                rw [show (((-x) : Int32).toInt64 : Int64) = ab9 x from (if_neg hs_36).symm]
                refine lv_lstore_n (lv' := [(3, .long (ab9 x)), (0, .ref mx), (1, .int y), (2, .int x)]) hx hb d_M_angle_74 rfl hl (by decide) rfl (fun ls hl => ?_)
                refine lv_iload_n hx hb d_M_angle_75 rfl (lv_at hl 2 rfl) ?_
                refine lv_if_ge (tgt := 85) hx hb d_M_angle_76 (by decide) (fun hs_42 => ?_) (fun hs_42 => ?_)
                · refine lv_iload_n hx hb d_M_angle_85 rfl (lv_at hl 2 rfl) ?_
                  refine lv_i2l hx hb d_M_angle_86 rfl ?_
                  rw [show ((y : Int32).toInt64 : Int64) = ab9 y from (if_pos hs_42).symm]
                  refine lv_lstore (lv' := [(5, .long (ab9 y)), (3, .long (ab9 x)), (0, .ref mx), (1, .int y), (2, .int x)]) hx hb d_M_angle_87 hl (by decide) rfl (fun ls hl => ?_)
                  refine lv_lconst (v := 0) hx hb d_M_angle_89 (by decide) ?_
                  refine lv_lstore (lv' := [(7, .long 0), (5, .long (ab9 y)), (3, .long (ab9 x)), (0, .ref mx), (1, .int y), (2, .int x)]) hx hb d_M_angle_90 hl (by decide) rfl (fun ls hl => ?_)
                  refine lv_iconst (v := 1) hx hb d_M_angle_92 (by decide) ?_
                  refine lv_istore (lv' := [(9, .int 1), (7, .long 0), (5, .long (ab9 y)), (3, .long (ab9 x)), (0, .ref mx), (1, .int y), (2, .int x)]) hx hb d_M_angle_93 hl (by decide) rfl (fun ls hl => ?_)
                  refine lv_aload_n hx hb d_M_angle_95 rfl (lv_at hl 4 rfl) ?_
                  refine lv_bipush (v := 11) hx hb d_M_angle_96 (by decide) ?_
                  refine va_put (D := (dC, dI)) (ci := 4) (v := .int 11) (ty := .int) (C := R_M) (T := F_M) (N := 9) hx hb ha ui_M ft_M tk_M nm_M hown hK hP hD hS 0 rfl rfl 6 (by decide) (ha _ wm_M_11) (fun _ h9 => h9) rfl (by decide +kernel) rfl rfl (Nat.le_of_ble_eq_true rfl) d_M_angle_98 (fun H locs hP hD hS => ?_)
                  have hP : va_P (dC, dI) cl9 [(mx, .inr (4, [.int 0, .long sd, .int nt, .ref ro, .ref pl, .ref vl, .int 11, .ref pa, .ref pr])), (pa, .inl (cL, 240, .inr (.inl g))), (pr, .inl (cL, 48, .inr (.inl p9)))] H := hP
                  have hD : va_D A [(mx, .inr (4, [.int 0, .long sd, .int nt, .ref ro, .ref pl, .ref vl, .int 11, .ref pa, .ref pr])), (pa, .inl (cL, 240, .inr (.inl g))), (pr, .inl (cL, 48, .inr (.inl p9)))] := hD
                  have hP : va_P (dC, dI) cl9 [(mx, .inr (4, [.int 0, .long sd, .int nt, .ref ro, .ref pl, .ref vl, .int (nI 11), .ref pa, .ref pr])), (pa, .inl (cL, 240, .inr (.inl g))), (pr, .inl (cL, 48, .inr (.inl p9)))] H := hP
                  have hD : va_D A [(mx, .inr (4, [.int 0, .long sd, .int nt, .ref ro, .ref pl, .ref vl, .int (nI 11), .ref pa, .ref pr])), (pa, .inl (cL, 240, .inr (.inl g))), (pr, .inl (cL, 48, .inr (.inl p9)))] := hD
                  refine lv_iload hx hb d_M_angle_101 (lv_at hl 0 rfl) ?_
                  refine lv_if_eq (tgt := 213) hx hb d_M_angle_103 (by decide) (fun hq1 => ?_) (fun hq1 => ?_)
                  · exact absurd hq1 (by decide)
                  · refine ps_M_angle (R := { frames := 4, cells := 0, slots := 0, locals := 140 }) (cells := 0) (slots := 0) (mx := mx) (th := 0) (sd := sd) (nt := nt) (ro := ro) (pl := pl) (vl := vl) (f := 11) (pa := pa) (pr := pr) (cL := cL) (g := g) (p9 := p9) (y := y) (x := x) hF hA hK (Nat.le_of_ble_eq_true rfl) (Nat.le_of_ble_eq_true rfl) (Nat.le_of_ble_eq_true rfl) (Nat.le_of_ble_eq_true rfl) (by decide) ha9 hb9 hpos (fun g6 p6 v6 eP6 ep6 eV6 H locs ls hP hD hS hl => ?_) _ _ _ hP hD hS (lv_sub hl [4, 5, 6, 3, 2] rfl)
                    refine lv_lstore (lv' := [(7, .long v6), (0, .ref mx), (1, .int y), (2, .int x), (3, .long (ab9 x)), (5, .long (ab9 y))]) hx hb d_M_angle_195 hl (by decide) rfl (fun ls hl => ?_)
                    refine lv_aload_n hx hb d_M_angle_197 rfl (lv_at hl 1 rfl) ?_
                    refine lv_iconst (v := 0) hx hb d_M_angle_198 (by decide) ?_
                    refine cs_calli (va_runV (As := [.int 0]) (rest := []) ⟨hx, hb, hml, hown, ha⟩ (c_M_isOpen l dC dI mx 0 sd nt ro pl vl pa pr cL g6 0 (by omega) _) (cwV 1 ha g_M_M_isOpen rfl rfl rfl (by decide +kernel) ⟨Nat.le_of_ble_eq_true rfl, Nat.le_of_ble_eq_true rfl⟩) (ct_preV ct_G0ok trivial hK hP hD hS hA [0, 1] rfl (by decide) [0] rfl 0 4 rfl rfl rfl) rfl rfl hl.1 rfl (lv_room (Nat.le_of_ble_eq_true rfl)) d_M_angle_199 ⟨Nat.le_of_ble_eq_true rfl, Nat.le_of_ble_eq_true rfl⟩) hP hD hS hA [0, 1] rfl (by decide) (fun _ => rfl) (fun o_43 u7 H locs ho_43 hP hD hS => ?_)
                    have hP : va_P (dC, dI) cl9 [(mx, .inr (4, [.int 0, .long sd, .int nt, .ref ro, .ref pl, .ref vl, .int (nI 11), .ref pa, .ref pr])), (pa, .inl (cL, 240, .inr (.inl g6))), (pr, .inl (cL, 48, .inr (.inl p6)))] H := hP
                    have hD : va_D A [(mx, .inr (4, [.int 0, .long sd, .int nt, .ref ro, .ref pl, .ref vl, .int (nI 11), .ref pa, .ref pr])), (pa, .inl (cL, 240, .inr (.inl g6))), (pr, .inl (cL, 48, .inr (.inl p6)))] := hD
                    refine lv_istore (lv' := [(9, .int o_43), (7, .long v6), (0, .ref mx), (1, .int y), (2, .int x), (3, .long (ab9 x)), (5, .long (ab9 y))]) hx hb d_M_angle_202 hl (by decide) rfl (fun ls hl => ?_)
                    refine lv_aload_n hx hb d_M_angle_204 rfl (lv_at hl 2 rfl) ?_
                    refine lv_bipush (v := 17) hx hb d_M_angle_205 (by decide) ?_
                    refine va_put (D := (dC, dI)) (ci := 4) (v := .int 17) (ty := .int) (C := R_M) (T := F_M) (N := 9) hx hb ha ui_M ft_M tk_M nm_M hown hK hP hD hS 0 rfl rfl 6 (by decide) (ha _ wm_M_11) (fun _ h9 => h9) rfl (by decide +kernel) rfl rfl (Nat.le_of_ble_eq_true rfl) d_M_angle_207 (fun H locs hP hD hS => ?_)
                    have hP : va_P (dC, dI) cl9 [(mx, .inr (4, [.int 0, .long sd, .int nt, .ref ro, .ref pl, .ref vl, .int 17, .ref pa, .ref pr])), (pa, .inl (cL, 240, .inr (.inl g6))), (pr, .inl (cL, 48, .inr (.inl p6)))] H := hP
                    have hD : va_D A [(mx, .inr (4, [.int 0, .long sd, .int nt, .ref ro, .ref pl, .ref vl, .int 17, .ref pa, .ref pr])), (pa, .inl (cL, 240, .inr (.inl g6))), (pr, .inl (cL, 48, .inr (.inl p6)))] := hD
                    have hP : va_P (dC, dI) cl9 [(mx, .inr (4, [.int 0, .long sd, .int nt, .ref ro, .ref pl, .ref vl, .int (nI 17), .ref pa, .ref pr])), (pa, .inl (cL, 240, .inr (.inl g6))), (pr, .inl (cL, 48, .inr (.inl p6)))] H := hP
                    have hD : va_D A [(mx, .inr (4, [.int 0, .long sd, .int nt, .ref ro, .ref pl, .ref vl, .int (nI 17), .ref pa, .ref pr])), (pa, .inl (cL, 240, .inr (.inl g6))), (pr, .inl (cL, 48, .inr (.inl p6)))] := hD
                    refine lv_goto (tgt := 101) hx hb d_M_angle_210 (by decide) ?_
                    refine lv_iload hx hb d_M_angle_101 (lv_at hl 0 rfl) ?_
                    refine lv_if_eq (tgt := 213) hx hb d_M_angle_103 (by decide) (fun ho => ?_) (fun ho => ?_)
                    · refine lv_lload hx hb d_M_angle_213 (lv_at hl 1 rfl) ?_
                      exact ct_lret hF d_M_angle_215 (0, 17, g6, p6) ⟨(show (17 : Nat) ≤ 20 by decide), ((if_neg h1).trans ((if_neg h2).trans ((if_neg h3).trans (if_pos h4)))).symm, ((if_neg h1).trans ((if_neg h2).trans ((if_neg h3).trans ((if_pos h4).trans ((if_neg hy).trans ((if_pos (by rw [eP6]; exact ho_43.symm.trans ho)).trans eV6)))))).symm⟩ (hP.sub [0, 1, 2] rfl) (hD.sub [0, 1, 2] (by decide) rfl) hK hS
                    · have ho2 : ¬ md_op 0 g6 = 0 := fun q => ho (ho_43.trans q)
                      refine ps_M_angle (R := { frames := 4, cells := 0, slots := 0, locals := 140 }) (cells := 0) (slots := 0) (mx := mx) (th := 0) (sd := sd) (nt := nt) (ro := ro) (pl := pl) (vl := vl) (f := 17) (pa := pa) (pr := pr) (cL := cL) (g := g6) (p9 := p6) (y := y) (x := x) hF hA hK (Nat.le_of_ble_eq_true rfl) (Nat.le_of_ble_eq_true rfl) (Nat.le_of_ble_eq_true rfl) (Nat.le_of_ble_eq_true rfl) (by decide) ha9 hb9 hpos (fun g7 p7 v7 eP7 ep7 eV7 H locs ls hP hD hS hl => ?_) _ _ _ hP hD hS (lv_sub hl [2, 3, 4, 5, 6] rfl)
                      refine lv_lstore (lv' := [(7, .long v7), (0, .ref mx), (1, .int y), (2, .int x), (3, .long (ab9 x)), (5, .long (ab9 y))]) hx hb d_M_angle_195 hl (by decide) rfl (fun ls hl => ?_)
                      refine lv_aload_n hx hb d_M_angle_197 rfl (lv_at hl 1 rfl) ?_
                      refine lv_iconst (v := 0) hx hb d_M_angle_198 (by decide) ?_
                      refine cs_calli (va_runV (As := [.int 0]) (rest := []) ⟨hx, hb, hml, hown, ha⟩ (c_M_isOpen17 l dC dI mx 0 sd nt ro pl vl pa pr cL g7 0 (by omega) _) (cwV 1 ha g_M_M_isOpen rfl rfl rfl (by decide +kernel) ⟨Nat.le_of_ble_eq_true rfl, Nat.le_of_ble_eq_true rfl⟩) (ct_preV ct_G0ok trivial hK hP hD hS hA [0, 1] rfl (by decide) [0] rfl 0 4 rfl rfl rfl) rfl rfl hl.1 rfl (lv_room (Nat.le_of_ble_eq_true rfl)) d_M_angle_199 ⟨Nat.le_of_ble_eq_true rfl, Nat.le_of_ble_eq_true rfl⟩) hP hD hS hA [0, 1] rfl (by decide) (fun _ => rfl) (fun o_44 u7 H locs ho_44 hP hD hS => ?_)
                      have hP : va_P (dC, dI) cl9 [(mx, .inr (4, [.int 0, .long sd, .int nt, .ref ro, .ref pl, .ref vl, .int (nI 17), .ref pa, .ref pr])), (pa, .inl (cL, 240, .inr (.inl g7))), (pr, .inl (cL, 48, .inr (.inl p7)))] H := hP
                      have hD : va_D A [(mx, .inr (4, [.int 0, .long sd, .int nt, .ref ro, .ref pl, .ref vl, .int (nI 17), .ref pa, .ref pr])), (pa, .inl (cL, 240, .inr (.inl g7))), (pr, .inl (cL, 48, .inr (.inl p7)))] := hD
                      refine lv_istore (lv' := [(9, .int o_44), (7, .long v7), (0, .ref mx), (1, .int y), (2, .int x), (3, .long (ab9 x)), (5, .long (ab9 y))]) hx hb d_M_angle_202 hl (by decide) rfl (fun ls hl => ?_)
                      refine lv_aload_n hx hb d_M_angle_204 rfl (lv_at hl 2 rfl) ?_
                      refine lv_bipush (v := 17) hx hb d_M_angle_205 (by decide) ?_
                      refine va_put (D := (dC, dI)) (ci := 4) (v := .int 17) (ty := .int) (C := R_M) (T := F_M) (N := 9) hx hb ha ui_M ft_M tk_M nm_M hown hK hP hD hS 0 rfl rfl 6 (by decide) (ha _ wm_M_11) (fun _ h9 => h9) rfl (by decide +kernel) rfl rfl (Nat.le_of_ble_eq_true rfl) d_M_angle_207 (fun H locs hP hD hS => ?_)
                      have hP : va_P (dC, dI) cl9 [(mx, .inr (4, [.int 0, .long sd, .int nt, .ref ro, .ref pl, .ref vl, .int 17, .ref pa, .ref pr])), (pa, .inl (cL, 240, .inr (.inl g7))), (pr, .inl (cL, 48, .inr (.inl p7)))] H := hP
                      have hD : va_D A [(mx, .inr (4, [.int 0, .long sd, .int nt, .ref ro, .ref pl, .ref vl, .int 17, .ref pa, .ref pr])), (pa, .inl (cL, 240, .inr (.inl g7))), (pr, .inl (cL, 48, .inr (.inl p7)))] := hD
                      have hP : va_P (dC, dI) cl9 [(mx, .inr (4, [.int 0, .long sd, .int nt, .ref ro, .ref pl, .ref vl, .int (nI 17), .ref pa, .ref pr])), (pa, .inl (cL, 240, .inr (.inl g7))), (pr, .inl (cL, 48, .inr (.inl p7)))] H := hP
                      have hD : va_D A [(mx, .inr (4, [.int 0, .long sd, .int nt, .ref ro, .ref pl, .ref vl, .int (nI 17), .ref pa, .ref pr])), (pa, .inl (cL, 240, .inr (.inl g7))), (pr, .inl (cL, 48, .inr (.inl p7)))] := hD
                      refine lv_goto (tgt := 101) hx hb d_M_angle_210 (by decide) ?_
                      refine lv_iload hx hb d_M_angle_101 (lv_at hl 0 rfl) ?_
                      refine lv_if_eq (tgt := 213) hx hb d_M_angle_103 (by decide) (fun ho3 => ?_) (fun ho3 => ?_)
                      · refine lv_lload hx hb d_M_angle_213 (lv_at hl 1 rfl) ?_
                        exact ct_lret hF d_M_angle_215 (0, 17, g7, p7) ⟨(show (17 : Nat) ≤ 20 by decide), ((if_neg h1).trans ((if_neg h2).trans ((if_neg h3).trans (if_pos h4)))).symm, ((if_neg h1).trans ((if_neg h2).trans ((if_neg h3).trans ((if_pos h4).trans ((if_neg hy).trans ((if_neg (by rw [eP6]; exact ho2)).trans (by rw [eP6]; exact eV7))))))).symm⟩ (hP.sub [0, 1, 2] rfl) (hD.sub [0, 1, 2] (by decide) rfl) hK hS
                      · exact absurd ho_44 ho3
                · refine lv_iload_n hx hb d_M_angle_79 rfl (lv_at hl 2 rfl) ?_
                  refine lv_ineg hx hb d_M_angle_80 ?_
                  refine lv_i2l hx hb d_M_angle_81 rfl ?_
                  refine lv_goto (tgt := 87) hx hb d_M_angle_82 (by decide) ?_
                  rw [show (((-y) : Int32).toInt64 : Int64) = ab9 y from (if_neg hs_42).symm]
                  refine lv_lstore (lv' := [(5, .long (ab9 y)), (3, .long (ab9 x)), (0, .ref mx), (1, .int y), (2, .int x)]) hx hb d_M_angle_87 hl (by decide) rfl (fun ls hl => ?_)
                  refine lv_lconst (v := 0) hx hb d_M_angle_89 (by decide) ?_
                  refine lv_lstore (lv' := [(7, .long 0), (5, .long (ab9 y)), (3, .long (ab9 x)), (0, .ref mx), (1, .int y), (2, .int x)]) hx hb d_M_angle_90 hl (by decide) rfl (fun ls hl => ?_)
                  refine lv_iconst (v := 1) hx hb d_M_angle_92 (by decide) ?_
                  refine lv_istore (lv' := [(9, .int 1), (7, .long 0), (5, .long (ab9 y)), (3, .long (ab9 x)), (0, .ref mx), (1, .int y), (2, .int x)]) hx hb d_M_angle_93 hl (by decide) rfl (fun ls hl => ?_)
                  refine lv_aload_n hx hb d_M_angle_95 rfl (lv_at hl 4 rfl) ?_
                  refine lv_bipush (v := 11) hx hb d_M_angle_96 (by decide) ?_
                  refine va_put (D := (dC, dI)) (ci := 4) (v := .int 11) (ty := .int) (C := R_M) (T := F_M) (N := 9) hx hb ha ui_M ft_M tk_M nm_M hown hK hP hD hS 0 rfl rfl 6 (by decide) (ha _ wm_M_11) (fun _ h9 => h9) rfl (by decide +kernel) rfl rfl (Nat.le_of_ble_eq_true rfl) d_M_angle_98 (fun H locs hP hD hS => ?_)
                  have hP : va_P (dC, dI) cl9 [(mx, .inr (4, [.int 0, .long sd, .int nt, .ref ro, .ref pl, .ref vl, .int 11, .ref pa, .ref pr])), (pa, .inl (cL, 240, .inr (.inl g))), (pr, .inl (cL, 48, .inr (.inl p9)))] H := hP
                  have hD : va_D A [(mx, .inr (4, [.int 0, .long sd, .int nt, .ref ro, .ref pl, .ref vl, .int 11, .ref pa, .ref pr])), (pa, .inl (cL, 240, .inr (.inl g))), (pr, .inl (cL, 48, .inr (.inl p9)))] := hD
                  have hP : va_P (dC, dI) cl9 [(mx, .inr (4, [.int 0, .long sd, .int nt, .ref ro, .ref pl, .ref vl, .int (nI 11), .ref pa, .ref pr])), (pa, .inl (cL, 240, .inr (.inl g))), (pr, .inl (cL, 48, .inr (.inl p9)))] H := hP
                  have hD : va_D A [(mx, .inr (4, [.int 0, .long sd, .int nt, .ref ro, .ref pl, .ref vl, .int (nI 11), .ref pa, .ref pr])), (pa, .inl (cL, 240, .inr (.inl g))), (pr, .inl (cL, 48, .inr (.inl p9)))] := hD
                  refine lv_iload hx hb d_M_angle_101 (lv_at hl 0 rfl) ?_
                  refine lv_if_eq (tgt := 213) hx hb d_M_angle_103 (by decide) (fun hq1 => ?_) (fun hq1 => ?_)
                  · exact absurd hq1 (by decide)
                  · refine ps_M_angle (R := { frames := 4, cells := 0, slots := 0, locals := 140 }) (cells := 0) (slots := 0) (mx := mx) (th := 0) (sd := sd) (nt := nt) (ro := ro) (pl := pl) (vl := vl) (f := 11) (pa := pa) (pr := pr) (cL := cL) (g := g) (p9 := p9) (y := y) (x := x) hF hA hK (Nat.le_of_ble_eq_true rfl) (Nat.le_of_ble_eq_true rfl) (Nat.le_of_ble_eq_true rfl) (Nat.le_of_ble_eq_true rfl) (by decide) ha9 hb9 hpos (fun g6 p6 v6 eP6 ep6 eV6 H locs ls hP hD hS hl => ?_) _ _ _ hP hD hS (lv_sub hl [4, 5, 6, 3, 2] rfl)
                    refine lv_lstore (lv' := [(7, .long v6), (0, .ref mx), (1, .int y), (2, .int x), (3, .long (ab9 x)), (5, .long (ab9 y))]) hx hb d_M_angle_195 hl (by decide) rfl (fun ls hl => ?_)
                    refine lv_aload_n hx hb d_M_angle_197 rfl (lv_at hl 1 rfl) ?_
                    refine lv_iconst (v := 0) hx hb d_M_angle_198 (by decide) ?_
                    refine cs_calli (va_runV (As := [.int 0]) (rest := []) ⟨hx, hb, hml, hown, ha⟩ (c_M_isOpen l dC dI mx 0 sd nt ro pl vl pa pr cL g6 0 (by omega) _) (cwV 1 ha g_M_M_isOpen rfl rfl rfl (by decide +kernel) ⟨Nat.le_of_ble_eq_true rfl, Nat.le_of_ble_eq_true rfl⟩) (ct_preV ct_G0ok trivial hK hP hD hS hA [0, 1] rfl (by decide) [0] rfl 0 4 rfl rfl rfl) rfl rfl hl.1 rfl (lv_room (Nat.le_of_ble_eq_true rfl)) d_M_angle_199 ⟨Nat.le_of_ble_eq_true rfl, Nat.le_of_ble_eq_true rfl⟩) hP hD hS hA [0, 1] rfl (by decide) (fun _ => rfl) (fun o_45 u7 H locs ho_45 hP hD hS => ?_)
                    have hP : va_P (dC, dI) cl9 [(mx, .inr (4, [.int 0, .long sd, .int nt, .ref ro, .ref pl, .ref vl, .int (nI 11), .ref pa, .ref pr])), (pa, .inl (cL, 240, .inr (.inl g6))), (pr, .inl (cL, 48, .inr (.inl p6)))] H := hP
                    have hD : va_D A [(mx, .inr (4, [.int 0, .long sd, .int nt, .ref ro, .ref pl, .ref vl, .int (nI 11), .ref pa, .ref pr])), (pa, .inl (cL, 240, .inr (.inl g6))), (pr, .inl (cL, 48, .inr (.inl p6)))] := hD
                    refine lv_istore (lv' := [(9, .int o_45), (7, .long v6), (0, .ref mx), (1, .int y), (2, .int x), (3, .long (ab9 x)), (5, .long (ab9 y))]) hx hb d_M_angle_202 hl (by decide) rfl (fun ls hl => ?_)
                    refine lv_aload_n hx hb d_M_angle_204 rfl (lv_at hl 2 rfl) ?_
                    refine lv_bipush (v := 17) hx hb d_M_angle_205 (by decide) ?_
                    refine va_put (D := (dC, dI)) (ci := 4) (v := .int 17) (ty := .int) (C := R_M) (T := F_M) (N := 9) hx hb ha ui_M ft_M tk_M nm_M hown hK hP hD hS 0 rfl rfl 6 (by decide) (ha _ wm_M_11) (fun _ h9 => h9) rfl (by decide +kernel) rfl rfl (Nat.le_of_ble_eq_true rfl) d_M_angle_207 (fun H locs hP hD hS => ?_)
                    have hP : va_P (dC, dI) cl9 [(mx, .inr (4, [.int 0, .long sd, .int nt, .ref ro, .ref pl, .ref vl, .int 17, .ref pa, .ref pr])), (pa, .inl (cL, 240, .inr (.inl g6))), (pr, .inl (cL, 48, .inr (.inl p6)))] H := hP
                    have hD : va_D A [(mx, .inr (4, [.int 0, .long sd, .int nt, .ref ro, .ref pl, .ref vl, .int 17, .ref pa, .ref pr])), (pa, .inl (cL, 240, .inr (.inl g6))), (pr, .inl (cL, 48, .inr (.inl p6)))] := hD
                    have hP : va_P (dC, dI) cl9 [(mx, .inr (4, [.int 0, .long sd, .int nt, .ref ro, .ref pl, .ref vl, .int (nI 17), .ref pa, .ref pr])), (pa, .inl (cL, 240, .inr (.inl g6))), (pr, .inl (cL, 48, .inr (.inl p6)))] H := hP
                    have hD : va_D A [(mx, .inr (4, [.int 0, .long sd, .int nt, .ref ro, .ref pl, .ref vl, .int (nI 17), .ref pa, .ref pr])), (pa, .inl (cL, 240, .inr (.inl g6))), (pr, .inl (cL, 48, .inr (.inl p6)))] := hD
                    refine lv_goto (tgt := 101) hx hb d_M_angle_210 (by decide) ?_
                    refine lv_iload hx hb d_M_angle_101 (lv_at hl 0 rfl) ?_
                    refine lv_if_eq (tgt := 213) hx hb d_M_angle_103 (by decide) (fun ho => ?_) (fun ho => ?_)
                    · refine lv_lload hx hb d_M_angle_213 (lv_at hl 1 rfl) ?_
                      exact ct_lret hF d_M_angle_215 (0, 17, g6, p6) ⟨(show (17 : Nat) ≤ 20 by decide), ((if_neg h1).trans ((if_neg h2).trans ((if_neg h3).trans (if_pos h4)))).symm, ((if_neg h1).trans ((if_neg h2).trans ((if_neg h3).trans ((if_pos h4).trans ((if_neg hy).trans ((if_pos (by rw [eP6]; exact ho_45.symm.trans ho)).trans eV6)))))).symm⟩ (hP.sub [0, 1, 2] rfl) (hD.sub [0, 1, 2] (by decide) rfl) hK hS
                    · have ho2 : ¬ md_op 0 g6 = 0 := fun q => ho (ho_45.trans q)
                      refine ps_M_angle (R := { frames := 4, cells := 0, slots := 0, locals := 140 }) (cells := 0) (slots := 0) (mx := mx) (th := 0) (sd := sd) (nt := nt) (ro := ro) (pl := pl) (vl := vl) (f := 17) (pa := pa) (pr := pr) (cL := cL) (g := g6) (p9 := p6) (y := y) (x := x) hF hA hK (Nat.le_of_ble_eq_true rfl) (Nat.le_of_ble_eq_true rfl) (Nat.le_of_ble_eq_true rfl) (Nat.le_of_ble_eq_true rfl) (by decide) ha9 hb9 hpos (fun g7 p7 v7 eP7 ep7 eV7 H locs ls hP hD hS hl => ?_) _ _ _ hP hD hS (lv_sub hl [2, 3, 4, 5, 6] rfl)
                      refine lv_lstore (lv' := [(7, .long v7), (0, .ref mx), (1, .int y), (2, .int x), (3, .long (ab9 x)), (5, .long (ab9 y))]) hx hb d_M_angle_195 hl (by decide) rfl (fun ls hl => ?_)
                      refine lv_aload_n hx hb d_M_angle_197 rfl (lv_at hl 1 rfl) ?_
                      refine lv_iconst (v := 0) hx hb d_M_angle_198 (by decide) ?_
                      refine cs_calli (va_runV (As := [.int 0]) (rest := []) ⟨hx, hb, hml, hown, ha⟩ (c_M_isOpen17 l dC dI mx 0 sd nt ro pl vl pa pr cL g7 0 (by omega) _) (cwV 1 ha g_M_M_isOpen rfl rfl rfl (by decide +kernel) ⟨Nat.le_of_ble_eq_true rfl, Nat.le_of_ble_eq_true rfl⟩) (ct_preV ct_G0ok trivial hK hP hD hS hA [0, 1] rfl (by decide) [0] rfl 0 4 rfl rfl rfl) rfl rfl hl.1 rfl (lv_room (Nat.le_of_ble_eq_true rfl)) d_M_angle_199 ⟨Nat.le_of_ble_eq_true rfl, Nat.le_of_ble_eq_true rfl⟩) hP hD hS hA [0, 1] rfl (by decide) (fun _ => rfl) (fun o_46 u7 H locs ho_46 hP hD hS => ?_)
                      have hP : va_P (dC, dI) cl9 [(mx, .inr (4, [.int 0, .long sd, .int nt, .ref ro, .ref pl, .ref vl, .int (nI 17), .ref pa, .ref pr])), (pa, .inl (cL, 240, .inr (.inl g7))), (pr, .inl (cL, 48, .inr (.inl p7)))] H := hP
                      have hD : va_D A [(mx, .inr (4, [.int 0, .long sd, .int nt, .ref ro, .ref pl, .ref vl, .int (nI 17), .ref pa, .ref pr])), (pa, .inl (cL, 240, .inr (.inl g7))), (pr, .inl (cL, 48, .inr (.inl p7)))] := hD
                      refine lv_istore (lv' := [(9, .int o_46), (7, .long v7), (0, .ref mx), (1, .int y), (2, .int x), (3, .long (ab9 x)), (5, .long (ab9 y))]) hx hb d_M_angle_202 hl (by decide) rfl (fun ls hl => ?_)
                      refine lv_aload_n hx hb d_M_angle_204 rfl (lv_at hl 2 rfl) ?_
                      refine lv_bipush (v := 17) hx hb d_M_angle_205 (by decide) ?_
                      refine va_put (D := (dC, dI)) (ci := 4) (v := .int 17) (ty := .int) (C := R_M) (T := F_M) (N := 9) hx hb ha ui_M ft_M tk_M nm_M hown hK hP hD hS 0 rfl rfl 6 (by decide) (ha _ wm_M_11) (fun _ h9 => h9) rfl (by decide +kernel) rfl rfl (Nat.le_of_ble_eq_true rfl) d_M_angle_207 (fun H locs hP hD hS => ?_)
                      have hP : va_P (dC, dI) cl9 [(mx, .inr (4, [.int 0, .long sd, .int nt, .ref ro, .ref pl, .ref vl, .int 17, .ref pa, .ref pr])), (pa, .inl (cL, 240, .inr (.inl g7))), (pr, .inl (cL, 48, .inr (.inl p7)))] H := hP
                      have hD : va_D A [(mx, .inr (4, [.int 0, .long sd, .int nt, .ref ro, .ref pl, .ref vl, .int 17, .ref pa, .ref pr])), (pa, .inl (cL, 240, .inr (.inl g7))), (pr, .inl (cL, 48, .inr (.inl p7)))] := hD
                      have hP : va_P (dC, dI) cl9 [(mx, .inr (4, [.int 0, .long sd, .int nt, .ref ro, .ref pl, .ref vl, .int (nI 17), .ref pa, .ref pr])), (pa, .inl (cL, 240, .inr (.inl g7))), (pr, .inl (cL, 48, .inr (.inl p7)))] H := hP
                      have hD : va_D A [(mx, .inr (4, [.int 0, .long sd, .int nt, .ref ro, .ref pl, .ref vl, .int (nI 17), .ref pa, .ref pr])), (pa, .inl (cL, 240, .inr (.inl g7))), (pr, .inl (cL, 48, .inr (.inl p7)))] := hD
                      refine lv_goto (tgt := 101) hx hb d_M_angle_210 (by decide) ?_
                      refine lv_iload hx hb d_M_angle_101 (lv_at hl 0 rfl) ?_
                      refine lv_if_eq (tgt := 213) hx hb d_M_angle_103 (by decide) (fun ho3 => ?_) (fun ho3 => ?_)
                      · refine lv_lload hx hb d_M_angle_213 (lv_at hl 1 rfl) ?_
                        exact ct_lret hF d_M_angle_215 (0, 17, g7, p7) ⟨(show (17 : Nat) ≤ 20 by decide), ((if_neg h1).trans ((if_neg h2).trans ((if_neg h3).trans (if_pos h4)))).symm, ((if_neg h1).trans ((if_neg h2).trans ((if_neg h3).trans ((if_pos h4).trans ((if_neg hy).trans ((if_neg (by rw [eP6]; exact ho2)).trans (by rw [eP6]; exact eV7))))))).symm⟩ (hP.sub [0, 1, 2] rfl) (hD.sub [0, 1, 2] (by decide) rfl) hK hS
                      · exact absurd ho_46 ho3
            · refine lv_iload_n hx hb d_M_angle_46 rfl (lv_at hl 2 rfl) ?_
              refine lv_if_lt (tgt := 62) hx hb d_M_angle_47 (by decide) (fun hx0 => ?_) (fun hx0 => ?_)
              · have hpos : 0 < (ab9 x).toInt ∨ 0 < (ab9 y).toInt := Or.inl (ab9_p h3 (fun q => by rw [q] at hx0; exact absurd hx0 (by decide)))
                refine lv_iload_n hx hb d_M_angle_62 rfl (lv_at hl 2 rfl) ?_
                refine lv_if_ge (tgt := 72) hx hb d_M_angle_63 (by decide) (fun hs_47 => ?_) (fun hs_47 => ?_)
                · refine lv_iload_n hx hb d_M_angle_72 rfl (lv_at hl 2 rfl) ?_
                  refine lv_i2l hx hb d_M_angle_73 rfl ?_
                  rw [show ((x : Int32).toInt64 : Int64) = ab9 x from (if_pos hs_47).symm]
                  refine lv_lstore_n (lv' := [(3, .long (ab9 x)), (0, .ref mx), (1, .int y), (2, .int x)]) hx hb d_M_angle_74 rfl hl (by decide) rfl (fun ls hl => ?_)
                  refine lv_iload_n hx hb d_M_angle_75 rfl (lv_at hl 2 rfl) ?_
                  refine lv_if_ge (tgt := 85) hx hb d_M_angle_76 (by decide) (fun hs_48 => ?_) (fun hs_48 => ?_)
                  · refine lv_iload_n hx hb d_M_angle_85 rfl (lv_at hl 2 rfl) ?_
                    refine lv_i2l hx hb d_M_angle_86 rfl ?_
                    rw [show ((y : Int32).toInt64 : Int64) = ab9 y from (if_pos hs_48).symm]
                    refine lv_lstore (lv' := [(5, .long (ab9 y)), (3, .long (ab9 x)), (0, .ref mx), (1, .int y), (2, .int x)]) hx hb d_M_angle_87 hl (by decide) rfl (fun ls hl => ?_)
                    refine lv_lconst (v := 0) hx hb d_M_angle_89 (by decide) ?_
                    refine lv_lstore (lv' := [(7, .long 0), (5, .long (ab9 y)), (3, .long (ab9 x)), (0, .ref mx), (1, .int y), (2, .int x)]) hx hb d_M_angle_90 hl (by decide) rfl (fun ls hl => ?_)
                    refine lv_iconst (v := 1) hx hb d_M_angle_92 (by decide) ?_
                    refine lv_istore (lv' := [(9, .int 1), (7, .long 0), (5, .long (ab9 y)), (3, .long (ab9 x)), (0, .ref mx), (1, .int y), (2, .int x)]) hx hb d_M_angle_93 hl (by decide) rfl (fun ls hl => ?_)
                    refine lv_aload_n hx hb d_M_angle_95 rfl (lv_at hl 4 rfl) ?_
                    refine lv_bipush (v := 11) hx hb d_M_angle_96 (by decide) ?_
                    refine va_put (D := (dC, dI)) (ci := 4) (v := .int 11) (ty := .int) (C := R_M) (T := F_M) (N := 9) hx hb ha ui_M ft_M tk_M nm_M hown hK hP hD hS 0 rfl rfl 6 (by decide) (ha _ wm_M_11) (fun _ h9 => h9) rfl (by decide +kernel) rfl rfl (Nat.le_of_ble_eq_true rfl) d_M_angle_98 (fun H locs hP hD hS => ?_)
                    have hP : va_P (dC, dI) cl9 [(mx, .inr (4, [.int 0, .long sd, .int nt, .ref ro, .ref pl, .ref vl, .int 11, .ref pa, .ref pr])), (pa, .inl (cL, 240, .inr (.inl g))), (pr, .inl (cL, 48, .inr (.inl p9)))] H := hP
                    have hD : va_D A [(mx, .inr (4, [.int 0, .long sd, .int nt, .ref ro, .ref pl, .ref vl, .int 11, .ref pa, .ref pr])), (pa, .inl (cL, 240, .inr (.inl g))), (pr, .inl (cL, 48, .inr (.inl p9)))] := hD
                    have hP : va_P (dC, dI) cl9 [(mx, .inr (4, [.int 0, .long sd, .int nt, .ref ro, .ref pl, .ref vl, .int (nI 11), .ref pa, .ref pr])), (pa, .inl (cL, 240, .inr (.inl g))), (pr, .inl (cL, 48, .inr (.inl p9)))] H := hP
                    have hD : va_D A [(mx, .inr (4, [.int 0, .long sd, .int nt, .ref ro, .ref pl, .ref vl, .int (nI 11), .ref pa, .ref pr])), (pa, .inl (cL, 240, .inr (.inl g))), (pr, .inl (cL, 48, .inr (.inl p9)))] := hD
                    refine lv_iload hx hb d_M_angle_101 (lv_at hl 0 rfl) ?_
                    refine lv_if_eq (tgt := 213) hx hb d_M_angle_103 (by decide) (fun hq1 => ?_) (fun hq1 => ?_)
                    · exact absurd hq1 (by decide)
                    · refine ps_M_angle (R := { frames := 4, cells := 0, slots := 0, locals := 140 }) (cells := 0) (slots := 0) (mx := mx) (th := 0) (sd := sd) (nt := nt) (ro := ro) (pl := pl) (vl := vl) (f := 11) (pa := pa) (pr := pr) (cL := cL) (g := g) (p9 := p9) (y := y) (x := x) hF hA hK (Nat.le_of_ble_eq_true rfl) (Nat.le_of_ble_eq_true rfl) (Nat.le_of_ble_eq_true rfl) (Nat.le_of_ble_eq_true rfl) (by decide) ha9 hb9 hpos (fun g6 p6 v6 eP6 ep6 eV6 H locs ls hP hD hS hl => ?_) _ _ _ hP hD hS (lv_sub hl [4, 5, 6, 3, 2] rfl)
                      refine lv_lstore (lv' := [(7, .long v6), (0, .ref mx), (1, .int y), (2, .int x), (3, .long (ab9 x)), (5, .long (ab9 y))]) hx hb d_M_angle_195 hl (by decide) rfl (fun ls hl => ?_)
                      refine lv_aload_n hx hb d_M_angle_197 rfl (lv_at hl 1 rfl) ?_
                      refine lv_iconst (v := 0) hx hb d_M_angle_198 (by decide) ?_
                      refine cs_calli (va_runV (As := [.int 0]) (rest := []) ⟨hx, hb, hml, hown, ha⟩ (c_M_isOpen l dC dI mx 0 sd nt ro pl vl pa pr cL g6 0 (by omega) _) (cwV 1 ha g_M_M_isOpen rfl rfl rfl (by decide +kernel) ⟨Nat.le_of_ble_eq_true rfl, Nat.le_of_ble_eq_true rfl⟩) (ct_preV ct_G0ok trivial hK hP hD hS hA [0, 1] rfl (by decide) [0] rfl 0 4 rfl rfl rfl) rfl rfl hl.1 rfl (lv_room (Nat.le_of_ble_eq_true rfl)) d_M_angle_199 ⟨Nat.le_of_ble_eq_true rfl, Nat.le_of_ble_eq_true rfl⟩) hP hD hS hA [0, 1] rfl (by decide) (fun _ => rfl) (fun o_49 u7 H locs ho_49 hP hD hS => ?_)
                      have hP : va_P (dC, dI) cl9 [(mx, .inr (4, [.int 0, .long sd, .int nt, .ref ro, .ref pl, .ref vl, .int (nI 11), .ref pa, .ref pr])), (pa, .inl (cL, 240, .inr (.inl g6))), (pr, .inl (cL, 48, .inr (.inl p6)))] H := hP
                      have hD : va_D A [(mx, .inr (4, [.int 0, .long sd, .int nt, .ref ro, .ref pl, .ref vl, .int (nI 11), .ref pa, .ref pr])), (pa, .inl (cL, 240, .inr (.inl g6))), (pr, .inl (cL, 48, .inr (.inl p6)))] := hD
                      refine lv_istore (lv' := [(9, .int o_49), (7, .long v6), (0, .ref mx), (1, .int y), (2, .int x), (3, .long (ab9 x)), (5, .long (ab9 y))]) hx hb d_M_angle_202 hl (by decide) rfl (fun ls hl => ?_)
                      refine lv_aload_n hx hb d_M_angle_204 rfl (lv_at hl 2 rfl) ?_
                      refine lv_bipush (v := 17) hx hb d_M_angle_205 (by decide) ?_
                      refine va_put (D := (dC, dI)) (ci := 4) (v := .int 17) (ty := .int) (C := R_M) (T := F_M) (N := 9) hx hb ha ui_M ft_M tk_M nm_M hown hK hP hD hS 0 rfl rfl 6 (by decide) (ha _ wm_M_11) (fun _ h9 => h9) rfl (by decide +kernel) rfl rfl (Nat.le_of_ble_eq_true rfl) d_M_angle_207 (fun H locs hP hD hS => ?_)
                      have hP : va_P (dC, dI) cl9 [(mx, .inr (4, [.int 0, .long sd, .int nt, .ref ro, .ref pl, .ref vl, .int 17, .ref pa, .ref pr])), (pa, .inl (cL, 240, .inr (.inl g6))), (pr, .inl (cL, 48, .inr (.inl p6)))] H := hP
                      have hD : va_D A [(mx, .inr (4, [.int 0, .long sd, .int nt, .ref ro, .ref pl, .ref vl, .int 17, .ref pa, .ref pr])), (pa, .inl (cL, 240, .inr (.inl g6))), (pr, .inl (cL, 48, .inr (.inl p6)))] := hD
                      have hP : va_P (dC, dI) cl9 [(mx, .inr (4, [.int 0, .long sd, .int nt, .ref ro, .ref pl, .ref vl, .int (nI 17), .ref pa, .ref pr])), (pa, .inl (cL, 240, .inr (.inl g6))), (pr, .inl (cL, 48, .inr (.inl p6)))] H := hP
                      have hD : va_D A [(mx, .inr (4, [.int 0, .long sd, .int nt, .ref ro, .ref pl, .ref vl, .int (nI 17), .ref pa, .ref pr])), (pa, .inl (cL, 240, .inr (.inl g6))), (pr, .inl (cL, 48, .inr (.inl p6)))] := hD
                      refine lv_goto (tgt := 101) hx hb d_M_angle_210 (by decide) ?_
                      refine lv_iload hx hb d_M_angle_101 (lv_at hl 0 rfl) ?_
                      refine lv_if_eq (tgt := 213) hx hb d_M_angle_103 (by decide) (fun ho => ?_) (fun ho => ?_)
                      · refine lv_lload hx hb d_M_angle_213 (lv_at hl 1 rfl) ?_
                        exact ct_lret hF d_M_angle_215 (0, 17, g6, p6) ⟨(show (17 : Nat) ≤ 20 by decide), ((if_neg h1).trans ((if_neg h2).trans ((if_neg h3).trans (if_pos h4)))).symm, ((if_neg h1).trans ((if_neg h2).trans ((if_neg h3).trans ((if_pos h4).trans ((if_pos hy).trans ((if_pos hx0).trans ((if_pos (by rw [eP6]; exact ho_49.symm.trans ho)).trans eV6))))))).symm⟩ (hP.sub [0, 1, 2] rfl) (hD.sub [0, 1, 2] (by decide) rfl) hK hS
                      · have ho2 : ¬ md_op 0 g6 = 0 := fun q => ho (ho_49.trans q)
                        refine ps_M_angle (R := { frames := 4, cells := 0, slots := 0, locals := 140 }) (cells := 0) (slots := 0) (mx := mx) (th := 0) (sd := sd) (nt := nt) (ro := ro) (pl := pl) (vl := vl) (f := 17) (pa := pa) (pr := pr) (cL := cL) (g := g6) (p9 := p6) (y := y) (x := x) hF hA hK (Nat.le_of_ble_eq_true rfl) (Nat.le_of_ble_eq_true rfl) (Nat.le_of_ble_eq_true rfl) (Nat.le_of_ble_eq_true rfl) (by decide) ha9 hb9 hpos (fun g7 p7 v7 eP7 ep7 eV7 H locs ls hP hD hS hl => ?_) _ _ _ hP hD hS (lv_sub hl [2, 3, 4, 5, 6] rfl)
                        refine lv_lstore (lv' := [(7, .long v7), (0, .ref mx), (1, .int y), (2, .int x), (3, .long (ab9 x)), (5, .long (ab9 y))]) hx hb d_M_angle_195 hl (by decide) rfl (fun ls hl => ?_)
                        refine lv_aload_n hx hb d_M_angle_197 rfl (lv_at hl 1 rfl) ?_
                        refine lv_iconst (v := 0) hx hb d_M_angle_198 (by decide) ?_
                        refine cs_calli (va_runV (As := [.int 0]) (rest := []) ⟨hx, hb, hml, hown, ha⟩ (c_M_isOpen17 l dC dI mx 0 sd nt ro pl vl pa pr cL g7 0 (by omega) _) (cwV 1 ha g_M_M_isOpen rfl rfl rfl (by decide +kernel) ⟨Nat.le_of_ble_eq_true rfl, Nat.le_of_ble_eq_true rfl⟩) (ct_preV ct_G0ok trivial hK hP hD hS hA [0, 1] rfl (by decide) [0] rfl 0 4 rfl rfl rfl) rfl rfl hl.1 rfl (lv_room (Nat.le_of_ble_eq_true rfl)) d_M_angle_199 ⟨Nat.le_of_ble_eq_true rfl, Nat.le_of_ble_eq_true rfl⟩) hP hD hS hA [0, 1] rfl (by decide) (fun _ => rfl) (fun o_50 u7 H locs ho_50 hP hD hS => ?_)
                        have hP : va_P (dC, dI) cl9 [(mx, .inr (4, [.int 0, .long sd, .int nt, .ref ro, .ref pl, .ref vl, .int (nI 17), .ref pa, .ref pr])), (pa, .inl (cL, 240, .inr (.inl g7))), (pr, .inl (cL, 48, .inr (.inl p7)))] H := hP
                        have hD : va_D A [(mx, .inr (4, [.int 0, .long sd, .int nt, .ref ro, .ref pl, .ref vl, .int (nI 17), .ref pa, .ref pr])), (pa, .inl (cL, 240, .inr (.inl g7))), (pr, .inl (cL, 48, .inr (.inl p7)))] := hD
                        refine lv_istore (lv' := [(9, .int o_50), (7, .long v7), (0, .ref mx), (1, .int y), (2, .int x), (3, .long (ab9 x)), (5, .long (ab9 y))]) hx hb d_M_angle_202 hl (by decide) rfl (fun ls hl => ?_)
                        refine lv_aload_n hx hb d_M_angle_204 rfl (lv_at hl 2 rfl) ?_
                        refine lv_bipush (v := 17) hx hb d_M_angle_205 (by decide) ?_
                        refine va_put (D := (dC, dI)) (ci := 4) (v := .int 17) (ty := .int) (C := R_M) (T := F_M) (N := 9) hx hb ha ui_M ft_M tk_M nm_M hown hK hP hD hS 0 rfl rfl 6 (by decide) (ha _ wm_M_11) (fun _ h9 => h9) rfl (by decide +kernel) rfl rfl (Nat.le_of_ble_eq_true rfl) d_M_angle_207 (fun H locs hP hD hS => ?_)
                        have hP : va_P (dC, dI) cl9 [(mx, .inr (4, [.int 0, .long sd, .int nt, .ref ro, .ref pl, .ref vl, .int 17, .ref pa, .ref pr])), (pa, .inl (cL, 240, .inr (.inl g7))), (pr, .inl (cL, 48, .inr (.inl p7)))] H := hP
                        have hD : va_D A [(mx, .inr (4, [.int 0, .long sd, .int nt, .ref ro, .ref pl, .ref vl, .int 17, .ref pa, .ref pr])), (pa, .inl (cL, 240, .inr (.inl g7))), (pr, .inl (cL, 48, .inr (.inl p7)))] := hD
                        have hP : va_P (dC, dI) cl9 [(mx, .inr (4, [.int 0, .long sd, .int nt, .ref ro, .ref pl, .ref vl, .int (nI 17), .ref pa, .ref pr])), (pa, .inl (cL, 240, .inr (.inl g7))), (pr, .inl (cL, 48, .inr (.inl p7)))] H := hP
                        have hD : va_D A [(mx, .inr (4, [.int 0, .long sd, .int nt, .ref ro, .ref pl, .ref vl, .int (nI 17), .ref pa, .ref pr])), (pa, .inl (cL, 240, .inr (.inl g7))), (pr, .inl (cL, 48, .inr (.inl p7)))] := hD
                        refine lv_goto (tgt := 101) hx hb d_M_angle_210 (by decide) ?_
                        refine lv_iload hx hb d_M_angle_101 (lv_at hl 0 rfl) ?_
                        refine lv_if_eq (tgt := 213) hx hb d_M_angle_103 (by decide) (fun ho3 => ?_) (fun ho3 => ?_)
                        · refine lv_lload hx hb d_M_angle_213 (lv_at hl 1 rfl) ?_
                          exact ct_lret hF d_M_angle_215 (0, 17, g7, p7) ⟨(show (17 : Nat) ≤ 20 by decide), ((if_neg h1).trans ((if_neg h2).trans ((if_neg h3).trans (if_pos h4)))).symm, ((if_neg h1).trans ((if_neg h2).trans ((if_neg h3).trans ((if_pos h4).trans ((if_pos hy).trans ((if_pos hx0).trans ((if_neg (by rw [eP6]; exact ho2)).trans (by rw [eP6]; exact eV7)))))))).symm⟩ (hP.sub [0, 1, 2] rfl) (hD.sub [0, 1, 2] (by decide) rfl) hK hS
                        · exact absurd ho_50 ho3
                  · refine lv_iload_n hx hb d_M_angle_79 rfl (lv_at hl 2 rfl) ?_
                    refine lv_ineg hx hb d_M_angle_80 ?_
                    refine lv_i2l hx hb d_M_angle_81 rfl ?_
                    refine lv_goto (tgt := 87) hx hb d_M_angle_82 (by decide) ?_
                    rw [show (((-y) : Int32).toInt64 : Int64) = ab9 y from (if_neg hs_48).symm]
                    refine lv_lstore (lv' := [(5, .long (ab9 y)), (3, .long (ab9 x)), (0, .ref mx), (1, .int y), (2, .int x)]) hx hb d_M_angle_87 hl (by decide) rfl (fun ls hl => ?_)
                    refine lv_lconst (v := 0) hx hb d_M_angle_89 (by decide) ?_
                    refine lv_lstore (lv' := [(7, .long 0), (5, .long (ab9 y)), (3, .long (ab9 x)), (0, .ref mx), (1, .int y), (2, .int x)]) hx hb d_M_angle_90 hl (by decide) rfl (fun ls hl => ?_)
                    refine lv_iconst (v := 1) hx hb d_M_angle_92 (by decide) ?_
                    refine lv_istore (lv' := [(9, .int 1), (7, .long 0), (5, .long (ab9 y)), (3, .long (ab9 x)), (0, .ref mx), (1, .int y), (2, .int x)]) hx hb d_M_angle_93 hl (by decide) rfl (fun ls hl => ?_)
                    refine lv_aload_n hx hb d_M_angle_95 rfl (lv_at hl 4 rfl) ?_
                    refine lv_bipush (v := 11) hx hb d_M_angle_96 (by decide) ?_
                    refine va_put (D := (dC, dI)) (ci := 4) (v := .int 11) (ty := .int) (C := R_M) (T := F_M) (N := 9) hx hb ha ui_M ft_M tk_M nm_M hown hK hP hD hS 0 rfl rfl 6 (by decide) (ha _ wm_M_11) (fun _ h9 => h9) rfl (by decide +kernel) rfl rfl (Nat.le_of_ble_eq_true rfl) d_M_angle_98 (fun H locs hP hD hS => ?_)
                    have hP : va_P (dC, dI) cl9 [(mx, .inr (4, [.int 0, .long sd, .int nt, .ref ro, .ref pl, .ref vl, .int 11, .ref pa, .ref pr])), (pa, .inl (cL, 240, .inr (.inl g))), (pr, .inl (cL, 48, .inr (.inl p9)))] H := hP
                    have hD : va_D A [(mx, .inr (4, [.int 0, .long sd, .int nt, .ref ro, .ref pl, .ref vl, .int 11, .ref pa, .ref pr])), (pa, .inl (cL, 240, .inr (.inl g))), (pr, .inl (cL, 48, .inr (.inl p9)))] := hD
                    have hP : va_P (dC, dI) cl9 [(mx, .inr (4, [.int 0, .long sd, .int nt, .ref ro, .ref pl, .ref vl, .int (nI 11), .ref pa, .ref pr])), (pa, .inl (cL, 240, .inr (.inl g))), (pr, .inl (cL, 48, .inr (.inl p9)))] H := hP
                    have hD : va_D A [(mx, .inr (4, [.int 0, .long sd, .int nt, .ref ro, .ref pl, .ref vl, .int (nI 11), .ref pa, .ref pr])), (pa, .inl (cL, 240, .inr (.inl g))), (pr, .inl (cL, 48, .inr (.inl p9)))] := hD
                    refine lv_iload hx hb d_M_angle_101 (lv_at hl 0 rfl) ?_
                    refine lv_if_eq (tgt := 213) hx hb d_M_angle_103 (by decide) (fun hq1 => ?_) (fun hq1 => ?_)
                    · exact absurd hq1 (by decide)
                    · refine ps_M_angle (R := { frames := 4, cells := 0, slots := 0, locals := 140 }) (cells := 0) (slots := 0) (mx := mx) (th := 0) (sd := sd) (nt := nt) (ro := ro) (pl := pl) (vl := vl) (f := 11) (pa := pa) (pr := pr) (cL := cL) (g := g) (p9 := p9) (y := y) (x := x) hF hA hK (Nat.le_of_ble_eq_true rfl) (Nat.le_of_ble_eq_true rfl) (Nat.le_of_ble_eq_true rfl) (Nat.le_of_ble_eq_true rfl) (by decide) ha9 hb9 hpos (fun g6 p6 v6 eP6 ep6 eV6 H locs ls hP hD hS hl => ?_) _ _ _ hP hD hS (lv_sub hl [4, 5, 6, 3, 2] rfl)
                      refine lv_lstore (lv' := [(7, .long v6), (0, .ref mx), (1, .int y), (2, .int x), (3, .long (ab9 x)), (5, .long (ab9 y))]) hx hb d_M_angle_195 hl (by decide) rfl (fun ls hl => ?_)
                      refine lv_aload_n hx hb d_M_angle_197 rfl (lv_at hl 1 rfl) ?_
                      refine lv_iconst (v := 0) hx hb d_M_angle_198 (by decide) ?_
                      refine cs_calli (va_runV (As := [.int 0]) (rest := []) ⟨hx, hb, hml, hown, ha⟩ (c_M_isOpen l dC dI mx 0 sd nt ro pl vl pa pr cL g6 0 (by omega) _) (cwV 1 ha g_M_M_isOpen rfl rfl rfl (by decide +kernel) ⟨Nat.le_of_ble_eq_true rfl, Nat.le_of_ble_eq_true rfl⟩) (ct_preV ct_G0ok trivial hK hP hD hS hA [0, 1] rfl (by decide) [0] rfl 0 4 rfl rfl rfl) rfl rfl hl.1 rfl (lv_room (Nat.le_of_ble_eq_true rfl)) d_M_angle_199 ⟨Nat.le_of_ble_eq_true rfl, Nat.le_of_ble_eq_true rfl⟩) hP hD hS hA [0, 1] rfl (by decide) (fun _ => rfl) (fun o_51 u7 H locs ho_51 hP hD hS => ?_)
                      have hP : va_P (dC, dI) cl9 [(mx, .inr (4, [.int 0, .long sd, .int nt, .ref ro, .ref pl, .ref vl, .int (nI 11), .ref pa, .ref pr])), (pa, .inl (cL, 240, .inr (.inl g6))), (pr, .inl (cL, 48, .inr (.inl p6)))] H := hP
                      have hD : va_D A [(mx, .inr (4, [.int 0, .long sd, .int nt, .ref ro, .ref pl, .ref vl, .int (nI 11), .ref pa, .ref pr])), (pa, .inl (cL, 240, .inr (.inl g6))), (pr, .inl (cL, 48, .inr (.inl p6)))] := hD
                      refine lv_istore (lv' := [(9, .int o_51), (7, .long v6), (0, .ref mx), (1, .int y), (2, .int x), (3, .long (ab9 x)), (5, .long (ab9 y))]) hx hb d_M_angle_202 hl (by decide) rfl (fun ls hl => ?_)
                      refine lv_aload_n hx hb d_M_angle_204 rfl (lv_at hl 2 rfl) ?_
                      refine lv_bipush (v := 17) hx hb d_M_angle_205 (by decide) ?_
                      refine va_put (D := (dC, dI)) (ci := 4) (v := .int 17) (ty := .int) (C := R_M) (T := F_M) (N := 9) hx hb ha ui_M ft_M tk_M nm_M hown hK hP hD hS 0 rfl rfl 6 (by decide) (ha _ wm_M_11) (fun _ h9 => h9) rfl (by decide +kernel) rfl rfl (Nat.le_of_ble_eq_true rfl) d_M_angle_207 (fun H locs hP hD hS => ?_)
                      have hP : va_P (dC, dI) cl9 [(mx, .inr (4, [.int 0, .long sd, .int nt, .ref ro, .ref pl, .ref vl, .int 17, .ref pa, .ref pr])), (pa, .inl (cL, 240, .inr (.inl g6))), (pr, .inl (cL, 48, .inr (.inl p6)))] H := hP
                      have hD : va_D A [(mx, .inr (4, [.int 0, .long sd, .int nt, .ref ro, .ref pl, .ref vl, .int 17, .ref pa, .ref pr])), (pa, .inl (cL, 240, .inr (.inl g6))), (pr, .inl (cL, 48, .inr (.inl p6)))] := hD
                      have hP : va_P (dC, dI) cl9 [(mx, .inr (4, [.int 0, .long sd, .int nt, .ref ro, .ref pl, .ref vl, .int (nI 17), .ref pa, .ref pr])), (pa, .inl (cL, 240, .inr (.inl g6))), (pr, .inl (cL, 48, .inr (.inl p6)))] H := hP
                      have hD : va_D A [(mx, .inr (4, [.int 0, .long sd, .int nt, .ref ro, .ref pl, .ref vl, .int (nI 17), .ref pa, .ref pr])), (pa, .inl (cL, 240, .inr (.inl g6))), (pr, .inl (cL, 48, .inr (.inl p6)))] := hD
                      refine lv_goto (tgt := 101) hx hb d_M_angle_210 (by decide) ?_
                      refine lv_iload hx hb d_M_angle_101 (lv_at hl 0 rfl) ?_
                      refine lv_if_eq (tgt := 213) hx hb d_M_angle_103 (by decide) (fun ho => ?_) (fun ho => ?_)
                      · refine lv_lload hx hb d_M_angle_213 (lv_at hl 1 rfl) ?_
                        exact ct_lret hF d_M_angle_215 (0, 17, g6, p6) ⟨(show (17 : Nat) ≤ 20 by decide), ((if_neg h1).trans ((if_neg h2).trans ((if_neg h3).trans (if_pos h4)))).symm, ((if_neg h1).trans ((if_neg h2).trans ((if_neg h3).trans ((if_pos h4).trans ((if_pos hy).trans ((if_pos hx0).trans ((if_pos (by rw [eP6]; exact ho_51.symm.trans ho)).trans eV6))))))).symm⟩ (hP.sub [0, 1, 2] rfl) (hD.sub [0, 1, 2] (by decide) rfl) hK hS
                      · have ho2 : ¬ md_op 0 g6 = 0 := fun q => ho (ho_51.trans q)
                        refine ps_M_angle (R := { frames := 4, cells := 0, slots := 0, locals := 140 }) (cells := 0) (slots := 0) (mx := mx) (th := 0) (sd := sd) (nt := nt) (ro := ro) (pl := pl) (vl := vl) (f := 17) (pa := pa) (pr := pr) (cL := cL) (g := g6) (p9 := p6) (y := y) (x := x) hF hA hK (Nat.le_of_ble_eq_true rfl) (Nat.le_of_ble_eq_true rfl) (Nat.le_of_ble_eq_true rfl) (Nat.le_of_ble_eq_true rfl) (by decide) ha9 hb9 hpos (fun g7 p7 v7 eP7 ep7 eV7 H locs ls hP hD hS hl => ?_) _ _ _ hP hD hS (lv_sub hl [2, 3, 4, 5, 6] rfl)
                        refine lv_lstore (lv' := [(7, .long v7), (0, .ref mx), (1, .int y), (2, .int x), (3, .long (ab9 x)), (5, .long (ab9 y))]) hx hb d_M_angle_195 hl (by decide) rfl (fun ls hl => ?_)
                        refine lv_aload_n hx hb d_M_angle_197 rfl (lv_at hl 1 rfl) ?_
                        refine lv_iconst (v := 0) hx hb d_M_angle_198 (by decide) ?_
                        refine cs_calli (va_runV (As := [.int 0]) (rest := []) ⟨hx, hb, hml, hown, ha⟩ (c_M_isOpen17 l dC dI mx 0 sd nt ro pl vl pa pr cL g7 0 (by omega) _) (cwV 1 ha g_M_M_isOpen rfl rfl rfl (by decide +kernel) ⟨Nat.le_of_ble_eq_true rfl, Nat.le_of_ble_eq_true rfl⟩) (ct_preV ct_G0ok trivial hK hP hD hS hA [0, 1] rfl (by decide) [0] rfl 0 4 rfl rfl rfl) rfl rfl hl.1 rfl (lv_room (Nat.le_of_ble_eq_true rfl)) d_M_angle_199 ⟨Nat.le_of_ble_eq_true rfl, Nat.le_of_ble_eq_true rfl⟩) hP hD hS hA [0, 1] rfl (by decide) (fun _ => rfl) (fun o_52 u7 H locs ho_52 hP hD hS => ?_)
                        have hP : va_P (dC, dI) cl9 [(mx, .inr (4, [.int 0, .long sd, .int nt, .ref ro, .ref pl, .ref vl, .int (nI 17), .ref pa, .ref pr])), (pa, .inl (cL, 240, .inr (.inl g7))), (pr, .inl (cL, 48, .inr (.inl p7)))] H := hP
                        have hD : va_D A [(mx, .inr (4, [.int 0, .long sd, .int nt, .ref ro, .ref pl, .ref vl, .int (nI 17), .ref pa, .ref pr])), (pa, .inl (cL, 240, .inr (.inl g7))), (pr, .inl (cL, 48, .inr (.inl p7)))] := hD
                        refine lv_istore (lv' := [(9, .int o_52), (7, .long v7), (0, .ref mx), (1, .int y), (2, .int x), (3, .long (ab9 x)), (5, .long (ab9 y))]) hx hb d_M_angle_202 hl (by decide) rfl (fun ls hl => ?_)
                        refine lv_aload_n hx hb d_M_angle_204 rfl (lv_at hl 2 rfl) ?_
                        refine lv_bipush (v := 17) hx hb d_M_angle_205 (by decide) ?_
                        refine va_put (D := (dC, dI)) (ci := 4) (v := .int 17) (ty := .int) (C := R_M) (T := F_M) (N := 9) hx hb ha ui_M ft_M tk_M nm_M hown hK hP hD hS 0 rfl rfl 6 (by decide) (ha _ wm_M_11) (fun _ h9 => h9) rfl (by decide +kernel) rfl rfl (Nat.le_of_ble_eq_true rfl) d_M_angle_207 (fun H locs hP hD hS => ?_)
                        have hP : va_P (dC, dI) cl9 [(mx, .inr (4, [.int 0, .long sd, .int nt, .ref ro, .ref pl, .ref vl, .int 17, .ref pa, .ref pr])), (pa, .inl (cL, 240, .inr (.inl g7))), (pr, .inl (cL, 48, .inr (.inl p7)))] H := hP
                        have hD : va_D A [(mx, .inr (4, [.int 0, .long sd, .int nt, .ref ro, .ref pl, .ref vl, .int 17, .ref pa, .ref pr])), (pa, .inl (cL, 240, .inr (.inl g7))), (pr, .inl (cL, 48, .inr (.inl p7)))] := hD
                        have hP : va_P (dC, dI) cl9 [(mx, .inr (4, [.int 0, .long sd, .int nt, .ref ro, .ref pl, .ref vl, .int (nI 17), .ref pa, .ref pr])), (pa, .inl (cL, 240, .inr (.inl g7))), (pr, .inl (cL, 48, .inr (.inl p7)))] H := hP
                        have hD : va_D A [(mx, .inr (4, [.int 0, .long sd, .int nt, .ref ro, .ref pl, .ref vl, .int (nI 17), .ref pa, .ref pr])), (pa, .inl (cL, 240, .inr (.inl g7))), (pr, .inl (cL, 48, .inr (.inl p7)))] := hD
                        refine lv_goto (tgt := 101) hx hb d_M_angle_210 (by decide) ?_
                        refine lv_iload hx hb d_M_angle_101 (lv_at hl 0 rfl) ?_
                        refine lv_if_eq (tgt := 213) hx hb d_M_angle_103 (by decide) (fun ho3 => ?_) (fun ho3 => ?_)
                        · refine lv_lload hx hb d_M_angle_213 (lv_at hl 1 rfl) ?_
                          exact ct_lret hF d_M_angle_215 (0, 17, g7, p7) ⟨(show (17 : Nat) ≤ 20 by decide), ((if_neg h1).trans ((if_neg h2).trans ((if_neg h3).trans (if_pos h4)))).symm, ((if_neg h1).trans ((if_neg h2).trans ((if_neg h3).trans ((if_pos h4).trans ((if_pos hy).trans ((if_pos hx0).trans ((if_neg (by rw [eP6]; exact ho2)).trans (by rw [eP6]; exact eV7)))))))).symm⟩ (hP.sub [0, 1, 2] rfl) (hD.sub [0, 1, 2] (by decide) rfl) hK hS
                        · exact absurd ho_52 ho3
                · refine lv_iload_n hx hb d_M_angle_66 rfl (lv_at hl 2 rfl) ?_
                  refine lv_ineg hx hb d_M_angle_67 ?_
                  refine lv_i2l hx hb d_M_angle_68 rfl ?_
                  refine lv_goto (tgt := 74) hx hb d_M_angle_69 (by decide) ?_
                  rw [show (((-x) : Int32).toInt64 : Int64) = ab9 x from (if_neg hs_47).symm]
                  refine lv_lstore_n (lv' := [(3, .long (ab9 x)), (0, .ref mx), (1, .int y), (2, .int x)]) hx hb d_M_angle_74 rfl hl (by decide) rfl (fun ls hl => ?_)
                  refine lv_iload_n hx hb d_M_angle_75 rfl (lv_at hl 2 rfl) ?_
                  refine lv_if_ge (tgt := 85) hx hb d_M_angle_76 (by decide) (fun hs_53 => ?_) (fun hs_53 => ?_)
                  · refine lv_iload_n hx hb d_M_angle_85 rfl (lv_at hl 2 rfl) ?_
                    refine lv_i2l hx hb d_M_angle_86 rfl ?_
                    rw [show ((y : Int32).toInt64 : Int64) = ab9 y from (if_pos hs_53).symm]
                    refine lv_lstore (lv' := [(5, .long (ab9 y)), (3, .long (ab9 x)), (0, .ref mx), (1, .int y), (2, .int x)]) hx hb d_M_angle_87 hl (by decide) rfl (fun ls hl => ?_)
                    refine lv_lconst (v := 0) hx hb d_M_angle_89 (by decide) ?_
                    refine lv_lstore (lv' := [(7, .long 0), (5, .long (ab9 y)), (3, .long (ab9 x)), (0, .ref mx), (1, .int y), (2, .int x)]) hx hb d_M_angle_90 hl (by decide) rfl (fun ls hl => ?_)
                    refine lv_iconst (v := 1) hx hb d_M_angle_92 (by decide) ?_
                    refine lv_istore (lv' := [(9, .int 1), (7, .long 0), (5, .long (ab9 y)), (3, .long (ab9 x)), (0, .ref mx), (1, .int y), (2, .int x)]) hx hb d_M_angle_93 hl (by decide) rfl (fun ls hl => ?_)
                    refine lv_aload_n hx hb d_M_angle_95 rfl (lv_at hl 4 rfl) ?_
                    refine lv_bipush (v := 11) hx hb d_M_angle_96 (by decide) ?_
                    refine va_put (D := (dC, dI)) (ci := 4) (v := .int 11) (ty := .int) (C := R_M) (T := F_M) (N := 9) hx hb ha ui_M ft_M tk_M nm_M hown hK hP hD hS 0 rfl rfl 6 (by decide) (ha _ wm_M_11) (fun _ h9 => h9) rfl (by decide +kernel) rfl rfl (Nat.le_of_ble_eq_true rfl) d_M_angle_98 (fun H locs hP hD hS => ?_)
                    have hP : va_P (dC, dI) cl9 [(mx, .inr (4, [.int 0, .long sd, .int nt, .ref ro, .ref pl, .ref vl, .int 11, .ref pa, .ref pr])), (pa, .inl (cL, 240, .inr (.inl g))), (pr, .inl (cL, 48, .inr (.inl p9)))] H := hP
                    have hD : va_D A [(mx, .inr (4, [.int 0, .long sd, .int nt, .ref ro, .ref pl, .ref vl, .int 11, .ref pa, .ref pr])), (pa, .inl (cL, 240, .inr (.inl g))), (pr, .inl (cL, 48, .inr (.inl p9)))] := hD
                    have hP : va_P (dC, dI) cl9 [(mx, .inr (4, [.int 0, .long sd, .int nt, .ref ro, .ref pl, .ref vl, .int (nI 11), .ref pa, .ref pr])), (pa, .inl (cL, 240, .inr (.inl g))), (pr, .inl (cL, 48, .inr (.inl p9)))] H := hP
                    have hD : va_D A [(mx, .inr (4, [.int 0, .long sd, .int nt, .ref ro, .ref pl, .ref vl, .int (nI 11), .ref pa, .ref pr])), (pa, .inl (cL, 240, .inr (.inl g))), (pr, .inl (cL, 48, .inr (.inl p9)))] := hD
                    refine lv_iload hx hb d_M_angle_101 (lv_at hl 0 rfl) ?_
                    refine lv_if_eq (tgt := 213) hx hb d_M_angle_103 (by decide) (fun hq1 => ?_) (fun hq1 => ?_)
                    · exact absurd hq1 (by decide)
                    · refine ps_M_angle (R := { frames := 4, cells := 0, slots := 0, locals := 140 }) (cells := 0) (slots := 0) (mx := mx) (th := 0) (sd := sd) (nt := nt) (ro := ro) (pl := pl) (vl := vl) (f := 11) (pa := pa) (pr := pr) (cL := cL) (g := g) (p9 := p9) (y := y) (x := x) hF hA hK (Nat.le_of_ble_eq_true rfl) (Nat.le_of_ble_eq_true rfl) (Nat.le_of_ble_eq_true rfl) (Nat.le_of_ble_eq_true rfl) (by decide) ha9 hb9 hpos (fun g6 p6 v6 eP6 ep6 eV6 H locs ls hP hD hS hl => ?_) _ _ _ hP hD hS (lv_sub hl [4, 5, 6, 3, 2] rfl)
                      refine lv_lstore (lv' := [(7, .long v6), (0, .ref mx), (1, .int y), (2, .int x), (3, .long (ab9 x)), (5, .long (ab9 y))]) hx hb d_M_angle_195 hl (by decide) rfl (fun ls hl => ?_)
                      refine lv_aload_n hx hb d_M_angle_197 rfl (lv_at hl 1 rfl) ?_
                      refine lv_iconst (v := 0) hx hb d_M_angle_198 (by decide) ?_
                      refine cs_calli (va_runV (As := [.int 0]) (rest := []) ⟨hx, hb, hml, hown, ha⟩ (c_M_isOpen l dC dI mx 0 sd nt ro pl vl pa pr cL g6 0 (by omega) _) (cwV 1 ha g_M_M_isOpen rfl rfl rfl (by decide +kernel) ⟨Nat.le_of_ble_eq_true rfl, Nat.le_of_ble_eq_true rfl⟩) (ct_preV ct_G0ok trivial hK hP hD hS hA [0, 1] rfl (by decide) [0] rfl 0 4 rfl rfl rfl) rfl rfl hl.1 rfl (lv_room (Nat.le_of_ble_eq_true rfl)) d_M_angle_199 ⟨Nat.le_of_ble_eq_true rfl, Nat.le_of_ble_eq_true rfl⟩) hP hD hS hA [0, 1] rfl (by decide) (fun _ => rfl) (fun o_54 u7 H locs ho_54 hP hD hS => ?_)
                      have hP : va_P (dC, dI) cl9 [(mx, .inr (4, [.int 0, .long sd, .int nt, .ref ro, .ref pl, .ref vl, .int (nI 11), .ref pa, .ref pr])), (pa, .inl (cL, 240, .inr (.inl g6))), (pr, .inl (cL, 48, .inr (.inl p6)))] H := hP
                      have hD : va_D A [(mx, .inr (4, [.int 0, .long sd, .int nt, .ref ro, .ref pl, .ref vl, .int (nI 11), .ref pa, .ref pr])), (pa, .inl (cL, 240, .inr (.inl g6))), (pr, .inl (cL, 48, .inr (.inl p6)))] := hD
                      refine lv_istore (lv' := [(9, .int o_54), (7, .long v6), (0, .ref mx), (1, .int y), (2, .int x), (3, .long (ab9 x)), (5, .long (ab9 y))]) hx hb d_M_angle_202 hl (by decide) rfl (fun ls hl => ?_)
                      refine lv_aload_n hx hb d_M_angle_204 rfl (lv_at hl 2 rfl) ?_
                      refine lv_bipush (v := 17) hx hb d_M_angle_205 (by decide) ?_
                      refine va_put (D := (dC, dI)) (ci := 4) (v := .int 17) (ty := .int) (C := R_M) (T := F_M) (N := 9) hx hb ha ui_M ft_M tk_M nm_M hown hK hP hD hS 0 rfl rfl 6 (by decide) (ha _ wm_M_11) (fun _ h9 => h9) rfl (by decide +kernel) rfl rfl (Nat.le_of_ble_eq_true rfl) d_M_angle_207 (fun H locs hP hD hS => ?_)
                      have hP : va_P (dC, dI) cl9 [(mx, .inr (4, [.int 0, .long sd, .int nt, .ref ro, .ref pl, .ref vl, .int 17, .ref pa, .ref pr])), (pa, .inl (cL, 240, .inr (.inl g6))), (pr, .inl (cL, 48, .inr (.inl p6)))] H := hP
                      have hD : va_D A [(mx, .inr (4, [.int 0, .long sd, .int nt, .ref ro, .ref pl, .ref vl, .int 17, .ref pa, .ref pr])), (pa, .inl (cL, 240, .inr (.inl g6))), (pr, .inl (cL, 48, .inr (.inl p6)))] := hD
                      have hP : va_P (dC, dI) cl9 [(mx, .inr (4, [.int 0, .long sd, .int nt, .ref ro, .ref pl, .ref vl, .int (nI 17), .ref pa, .ref pr])), (pa, .inl (cL, 240, .inr (.inl g6))), (pr, .inl (cL, 48, .inr (.inl p6)))] H := hP
                      have hD : va_D A [(mx, .inr (4, [.int 0, .long sd, .int nt, .ref ro, .ref pl, .ref vl, .int (nI 17), .ref pa, .ref pr])), (pa, .inl (cL, 240, .inr (.inl g6))), (pr, .inl (cL, 48, .inr (.inl p6)))] := hD
                      refine lv_goto (tgt := 101) hx hb d_M_angle_210 (by decide) ?_
                      refine lv_iload hx hb d_M_angle_101 (lv_at hl 0 rfl) ?_
                      refine lv_if_eq (tgt := 213) hx hb d_M_angle_103 (by decide) (fun ho => ?_) (fun ho => ?_)
                      · refine lv_lload hx hb d_M_angle_213 (lv_at hl 1 rfl) ?_
                        exact ct_lret hF d_M_angle_215 (0, 17, g6, p6) ⟨(show (17 : Nat) ≤ 20 by decide), ((if_neg h1).trans ((if_neg h2).trans ((if_neg h3).trans (if_pos h4)))).symm, ((if_neg h1).trans ((if_neg h2).trans ((if_neg h3).trans ((if_pos h4).trans ((if_pos hy).trans ((if_pos hx0).trans ((if_pos (by rw [eP6]; exact ho_54.symm.trans ho)).trans eV6))))))).symm⟩ (hP.sub [0, 1, 2] rfl) (hD.sub [0, 1, 2] (by decide) rfl) hK hS
                      · have ho2 : ¬ md_op 0 g6 = 0 := fun q => ho (ho_54.trans q)
                        refine ps_M_angle (R := { frames := 4, cells := 0, slots := 0, locals := 140 }) (cells := 0) (slots := 0) (mx := mx) (th := 0) (sd := sd) (nt := nt) (ro := ro) (pl := pl) (vl := vl) (f := 17) (pa := pa) (pr := pr) (cL := cL) (g := g6) (p9 := p6) (y := y) (x := x) hF hA hK (Nat.le_of_ble_eq_true rfl) (Nat.le_of_ble_eq_true rfl) (Nat.le_of_ble_eq_true rfl) (Nat.le_of_ble_eq_true rfl) (by decide) ha9 hb9 hpos (fun g7 p7 v7 eP7 ep7 eV7 H locs ls hP hD hS hl => ?_) _ _ _ hP hD hS (lv_sub hl [2, 3, 4, 5, 6] rfl)
                        refine lv_lstore (lv' := [(7, .long v7), (0, .ref mx), (1, .int y), (2, .int x), (3, .long (ab9 x)), (5, .long (ab9 y))]) hx hb d_M_angle_195 hl (by decide) rfl (fun ls hl => ?_)
                        refine lv_aload_n hx hb d_M_angle_197 rfl (lv_at hl 1 rfl) ?_
                        refine lv_iconst (v := 0) hx hb d_M_angle_198 (by decide) ?_
                        refine cs_calli (va_runV (As := [.int 0]) (rest := []) ⟨hx, hb, hml, hown, ha⟩ (c_M_isOpen17 l dC dI mx 0 sd nt ro pl vl pa pr cL g7 0 (by omega) _) (cwV 1 ha g_M_M_isOpen rfl rfl rfl (by decide +kernel) ⟨Nat.le_of_ble_eq_true rfl, Nat.le_of_ble_eq_true rfl⟩) (ct_preV ct_G0ok trivial hK hP hD hS hA [0, 1] rfl (by decide) [0] rfl 0 4 rfl rfl rfl) rfl rfl hl.1 rfl (lv_room (Nat.le_of_ble_eq_true rfl)) d_M_angle_199 ⟨Nat.le_of_ble_eq_true rfl, Nat.le_of_ble_eq_true rfl⟩) hP hD hS hA [0, 1] rfl (by decide) (fun _ => rfl) (fun o_55 u7 H locs ho_55 hP hD hS => ?_)
                        have hP : va_P (dC, dI) cl9 [(mx, .inr (4, [.int 0, .long sd, .int nt, .ref ro, .ref pl, .ref vl, .int (nI 17), .ref pa, .ref pr])), (pa, .inl (cL, 240, .inr (.inl g7))), (pr, .inl (cL, 48, .inr (.inl p7)))] H := hP
                        have hD : va_D A [(mx, .inr (4, [.int 0, .long sd, .int nt, .ref ro, .ref pl, .ref vl, .int (nI 17), .ref pa, .ref pr])), (pa, .inl (cL, 240, .inr (.inl g7))), (pr, .inl (cL, 48, .inr (.inl p7)))] := hD
                        refine lv_istore (lv' := [(9, .int o_55), (7, .long v7), (0, .ref mx), (1, .int y), (2, .int x), (3, .long (ab9 x)), (5, .long (ab9 y))]) hx hb d_M_angle_202 hl (by decide) rfl (fun ls hl => ?_)
                        refine lv_aload_n hx hb d_M_angle_204 rfl (lv_at hl 2 rfl) ?_
                        refine lv_bipush (v := 17) hx hb d_M_angle_205 (by decide) ?_
                        refine va_put (D := (dC, dI)) (ci := 4) (v := .int 17) (ty := .int) (C := R_M) (T := F_M) (N := 9) hx hb ha ui_M ft_M tk_M nm_M hown hK hP hD hS 0 rfl rfl 6 (by decide) (ha _ wm_M_11) (fun _ h9 => h9) rfl (by decide +kernel) rfl rfl (Nat.le_of_ble_eq_true rfl) d_M_angle_207 (fun H locs hP hD hS => ?_)
                        have hP : va_P (dC, dI) cl9 [(mx, .inr (4, [.int 0, .long sd, .int nt, .ref ro, .ref pl, .ref vl, .int 17, .ref pa, .ref pr])), (pa, .inl (cL, 240, .inr (.inl g7))), (pr, .inl (cL, 48, .inr (.inl p7)))] H := hP
                        have hD : va_D A [(mx, .inr (4, [.int 0, .long sd, .int nt, .ref ro, .ref pl, .ref vl, .int 17, .ref pa, .ref pr])), (pa, .inl (cL, 240, .inr (.inl g7))), (pr, .inl (cL, 48, .inr (.inl p7)))] := hD
                        have hP : va_P (dC, dI) cl9 [(mx, .inr (4, [.int 0, .long sd, .int nt, .ref ro, .ref pl, .ref vl, .int (nI 17), .ref pa, .ref pr])), (pa, .inl (cL, 240, .inr (.inl g7))), (pr, .inl (cL, 48, .inr (.inl p7)))] H := hP
                        have hD : va_D A [(mx, .inr (4, [.int 0, .long sd, .int nt, .ref ro, .ref pl, .ref vl, .int (nI 17), .ref pa, .ref pr])), (pa, .inl (cL, 240, .inr (.inl g7))), (pr, .inl (cL, 48, .inr (.inl p7)))] := hD
                        refine lv_goto (tgt := 101) hx hb d_M_angle_210 (by decide) ?_
                        refine lv_iload hx hb d_M_angle_101 (lv_at hl 0 rfl) ?_
                        refine lv_if_eq (tgt := 213) hx hb d_M_angle_103 (by decide) (fun ho3 => ?_) (fun ho3 => ?_)
                        · refine lv_lload hx hb d_M_angle_213 (lv_at hl 1 rfl) ?_
                          exact ct_lret hF d_M_angle_215 (0, 17, g7, p7) ⟨(show (17 : Nat) ≤ 20 by decide), ((if_neg h1).trans ((if_neg h2).trans ((if_neg h3).trans (if_pos h4)))).symm, ((if_neg h1).trans ((if_neg h2).trans ((if_neg h3).trans ((if_pos h4).trans ((if_pos hy).trans ((if_pos hx0).trans ((if_neg (by rw [eP6]; exact ho2)).trans (by rw [eP6]; exact eV7)))))))).symm⟩ (hP.sub [0, 1, 2] rfl) (hD.sub [0, 1, 2] (by decide) rfl) hK hS
                        · exact absurd ho_55 ho3
                  · refine lv_iload_n hx hb d_M_angle_79 rfl (lv_at hl 2 rfl) ?_
                    refine lv_ineg hx hb d_M_angle_80 ?_
                    refine lv_i2l hx hb d_M_angle_81 rfl ?_
                    refine lv_goto (tgt := 87) hx hb d_M_angle_82 (by decide) ?_
                    rw [show (((-y) : Int32).toInt64 : Int64) = ab9 y from (if_neg hs_53).symm]
                    refine lv_lstore (lv' := [(5, .long (ab9 y)), (3, .long (ab9 x)), (0, .ref mx), (1, .int y), (2, .int x)]) hx hb d_M_angle_87 hl (by decide) rfl (fun ls hl => ?_)
                    refine lv_lconst (v := 0) hx hb d_M_angle_89 (by decide) ?_
                    refine lv_lstore (lv' := [(7, .long 0), (5, .long (ab9 y)), (3, .long (ab9 x)), (0, .ref mx), (1, .int y), (2, .int x)]) hx hb d_M_angle_90 hl (by decide) rfl (fun ls hl => ?_)
                    refine lv_iconst (v := 1) hx hb d_M_angle_92 (by decide) ?_
                    refine lv_istore (lv' := [(9, .int 1), (7, .long 0), (5, .long (ab9 y)), (3, .long (ab9 x)), (0, .ref mx), (1, .int y), (2, .int x)]) hx hb d_M_angle_93 hl (by decide) rfl (fun ls hl => ?_)
                    refine lv_aload_n hx hb d_M_angle_95 rfl (lv_at hl 4 rfl) ?_
                    refine lv_bipush (v := 11) hx hb d_M_angle_96 (by decide) ?_
                    refine va_put (D := (dC, dI)) (ci := 4) (v := .int 11) (ty := .int) (C := R_M) (T := F_M) (N := 9) hx hb ha ui_M ft_M tk_M nm_M hown hK hP hD hS 0 rfl rfl 6 (by decide) (ha _ wm_M_11) (fun _ h9 => h9) rfl (by decide +kernel) rfl rfl (Nat.le_of_ble_eq_true rfl) d_M_angle_98 (fun H locs hP hD hS => ?_)
                    have hP : va_P (dC, dI) cl9 [(mx, .inr (4, [.int 0, .long sd, .int nt, .ref ro, .ref pl, .ref vl, .int 11, .ref pa, .ref pr])), (pa, .inl (cL, 240, .inr (.inl g))), (pr, .inl (cL, 48, .inr (.inl p9)))] H := hP
                    have hD : va_D A [(mx, .inr (4, [.int 0, .long sd, .int nt, .ref ro, .ref pl, .ref vl, .int 11, .ref pa, .ref pr])), (pa, .inl (cL, 240, .inr (.inl g))), (pr, .inl (cL, 48, .inr (.inl p9)))] := hD
                    have hP : va_P (dC, dI) cl9 [(mx, .inr (4, [.int 0, .long sd, .int nt, .ref ro, .ref pl, .ref vl, .int (nI 11), .ref pa, .ref pr])), (pa, .inl (cL, 240, .inr (.inl g))), (pr, .inl (cL, 48, .inr (.inl p9)))] H := hP
                    have hD : va_D A [(mx, .inr (4, [.int 0, .long sd, .int nt, .ref ro, .ref pl, .ref vl, .int (nI 11), .ref pa, .ref pr])), (pa, .inl (cL, 240, .inr (.inl g))), (pr, .inl (cL, 48, .inr (.inl p9)))] := hD
                    refine lv_iload hx hb d_M_angle_101 (lv_at hl 0 rfl) ?_
                    refine lv_if_eq (tgt := 213) hx hb d_M_angle_103 (by decide) (fun hq1 => ?_) (fun hq1 => ?_)
                    · exact absurd hq1 (by decide)
                    · refine ps_M_angle (R := { frames := 4, cells := 0, slots := 0, locals := 140 }) (cells := 0) (slots := 0) (mx := mx) (th := 0) (sd := sd) (nt := nt) (ro := ro) (pl := pl) (vl := vl) (f := 11) (pa := pa) (pr := pr) (cL := cL) (g := g) (p9 := p9) (y := y) (x := x) hF hA hK (Nat.le_of_ble_eq_true rfl) (Nat.le_of_ble_eq_true rfl) (Nat.le_of_ble_eq_true rfl) (Nat.le_of_ble_eq_true rfl) (by decide) ha9 hb9 hpos (fun g6 p6 v6 eP6 ep6 eV6 H locs ls hP hD hS hl => ?_) _ _ _ hP hD hS (lv_sub hl [4, 5, 6, 3, 2] rfl)
                      refine lv_lstore (lv' := [(7, .long v6), (0, .ref mx), (1, .int y), (2, .int x), (3, .long (ab9 x)), (5, .long (ab9 y))]) hx hb d_M_angle_195 hl (by decide) rfl (fun ls hl => ?_)
                      refine lv_aload_n hx hb d_M_angle_197 rfl (lv_at hl 1 rfl) ?_
                      refine lv_iconst (v := 0) hx hb d_M_angle_198 (by decide) ?_
                      refine cs_calli (va_runV (As := [.int 0]) (rest := []) ⟨hx, hb, hml, hown, ha⟩ (c_M_isOpen l dC dI mx 0 sd nt ro pl vl pa pr cL g6 0 (by omega) _) (cwV 1 ha g_M_M_isOpen rfl rfl rfl (by decide +kernel) ⟨Nat.le_of_ble_eq_true rfl, Nat.le_of_ble_eq_true rfl⟩) (ct_preV ct_G0ok trivial hK hP hD hS hA [0, 1] rfl (by decide) [0] rfl 0 4 rfl rfl rfl) rfl rfl hl.1 rfl (lv_room (Nat.le_of_ble_eq_true rfl)) d_M_angle_199 ⟨Nat.le_of_ble_eq_true rfl, Nat.le_of_ble_eq_true rfl⟩) hP hD hS hA [0, 1] rfl (by decide) (fun _ => rfl) (fun o_56 u7 H locs ho_56 hP hD hS => ?_)
                      have hP : va_P (dC, dI) cl9 [(mx, .inr (4, [.int 0, .long sd, .int nt, .ref ro, .ref pl, .ref vl, .int (nI 11), .ref pa, .ref pr])), (pa, .inl (cL, 240, .inr (.inl g6))), (pr, .inl (cL, 48, .inr (.inl p6)))] H := hP
                      have hD : va_D A [(mx, .inr (4, [.int 0, .long sd, .int nt, .ref ro, .ref pl, .ref vl, .int (nI 11), .ref pa, .ref pr])), (pa, .inl (cL, 240, .inr (.inl g6))), (pr, .inl (cL, 48, .inr (.inl p6)))] := hD
                      refine lv_istore (lv' := [(9, .int o_56), (7, .long v6), (0, .ref mx), (1, .int y), (2, .int x), (3, .long (ab9 x)), (5, .long (ab9 y))]) hx hb d_M_angle_202 hl (by decide) rfl (fun ls hl => ?_)
                      refine lv_aload_n hx hb d_M_angle_204 rfl (lv_at hl 2 rfl) ?_
                      refine lv_bipush (v := 17) hx hb d_M_angle_205 (by decide) ?_
                      refine va_put (D := (dC, dI)) (ci := 4) (v := .int 17) (ty := .int) (C := R_M) (T := F_M) (N := 9) hx hb ha ui_M ft_M tk_M nm_M hown hK hP hD hS 0 rfl rfl 6 (by decide) (ha _ wm_M_11) (fun _ h9 => h9) rfl (by decide +kernel) rfl rfl (Nat.le_of_ble_eq_true rfl) d_M_angle_207 (fun H locs hP hD hS => ?_)
                      have hP : va_P (dC, dI) cl9 [(mx, .inr (4, [.int 0, .long sd, .int nt, .ref ro, .ref pl, .ref vl, .int 17, .ref pa, .ref pr])), (pa, .inl (cL, 240, .inr (.inl g6))), (pr, .inl (cL, 48, .inr (.inl p6)))] H := hP
                      have hD : va_D A [(mx, .inr (4, [.int 0, .long sd, .int nt, .ref ro, .ref pl, .ref vl, .int 17, .ref pa, .ref pr])), (pa, .inl (cL, 240, .inr (.inl g6))), (pr, .inl (cL, 48, .inr (.inl p6)))] := hD
                      have hP : va_P (dC, dI) cl9 [(mx, .inr (4, [.int 0, .long sd, .int nt, .ref ro, .ref pl, .ref vl, .int (nI 17), .ref pa, .ref pr])), (pa, .inl (cL, 240, .inr (.inl g6))), (pr, .inl (cL, 48, .inr (.inl p6)))] H := hP
                      have hD : va_D A [(mx, .inr (4, [.int 0, .long sd, .int nt, .ref ro, .ref pl, .ref vl, .int (nI 17), .ref pa, .ref pr])), (pa, .inl (cL, 240, .inr (.inl g6))), (pr, .inl (cL, 48, .inr (.inl p6)))] := hD
                      refine lv_goto (tgt := 101) hx hb d_M_angle_210 (by decide) ?_
                      refine lv_iload hx hb d_M_angle_101 (lv_at hl 0 rfl) ?_
                      refine lv_if_eq (tgt := 213) hx hb d_M_angle_103 (by decide) (fun ho => ?_) (fun ho => ?_)
                      · refine lv_lload hx hb d_M_angle_213 (lv_at hl 1 rfl) ?_
                        exact ct_lret hF d_M_angle_215 (0, 17, g6, p6) ⟨(show (17 : Nat) ≤ 20 by decide), ((if_neg h1).trans ((if_neg h2).trans ((if_neg h3).trans (if_pos h4)))).symm, ((if_neg h1).trans ((if_neg h2).trans ((if_neg h3).trans ((if_pos h4).trans ((if_pos hy).trans ((if_pos hx0).trans ((if_pos (by rw [eP6]; exact ho_56.symm.trans ho)).trans eV6))))))).symm⟩ (hP.sub [0, 1, 2] rfl) (hD.sub [0, 1, 2] (by decide) rfl) hK hS
                      · have ho2 : ¬ md_op 0 g6 = 0 := fun q => ho (ho_56.trans q)
                        refine ps_M_angle (R := { frames := 4, cells := 0, slots := 0, locals := 140 }) (cells := 0) (slots := 0) (mx := mx) (th := 0) (sd := sd) (nt := nt) (ro := ro) (pl := pl) (vl := vl) (f := 17) (pa := pa) (pr := pr) (cL := cL) (g := g6) (p9 := p6) (y := y) (x := x) hF hA hK (Nat.le_of_ble_eq_true rfl) (Nat.le_of_ble_eq_true rfl) (Nat.le_of_ble_eq_true rfl) (Nat.le_of_ble_eq_true rfl) (by decide) ha9 hb9 hpos (fun g7 p7 v7 eP7 ep7 eV7 H locs ls hP hD hS hl => ?_) _ _ _ hP hD hS (lv_sub hl [2, 3, 4, 5, 6] rfl)
                        refine lv_lstore (lv' := [(7, .long v7), (0, .ref mx), (1, .int y), (2, .int x), (3, .long (ab9 x)), (5, .long (ab9 y))]) hx hb d_M_angle_195 hl (by decide) rfl (fun ls hl => ?_)
                        refine lv_aload_n hx hb d_M_angle_197 rfl (lv_at hl 1 rfl) ?_
                        refine lv_iconst (v := 0) hx hb d_M_angle_198 (by decide) ?_
                        refine cs_calli (va_runV (As := [.int 0]) (rest := []) ⟨hx, hb, hml, hown, ha⟩ (c_M_isOpen17 l dC dI mx 0 sd nt ro pl vl pa pr cL g7 0 (by omega) _) (cwV 1 ha g_M_M_isOpen rfl rfl rfl (by decide +kernel) ⟨Nat.le_of_ble_eq_true rfl, Nat.le_of_ble_eq_true rfl⟩) (ct_preV ct_G0ok trivial hK hP hD hS hA [0, 1] rfl (by decide) [0] rfl 0 4 rfl rfl rfl) rfl rfl hl.1 rfl (lv_room (Nat.le_of_ble_eq_true rfl)) d_M_angle_199 ⟨Nat.le_of_ble_eq_true rfl, Nat.le_of_ble_eq_true rfl⟩) hP hD hS hA [0, 1] rfl (by decide) (fun _ => rfl) (fun o_57 u7 H locs ho_57 hP hD hS => ?_)
                        have hP : va_P (dC, dI) cl9 [(mx, .inr (4, [.int 0, .long sd, .int nt, .ref ro, .ref pl, .ref vl, .int (nI 17), .ref pa, .ref pr])), (pa, .inl (cL, 240, .inr (.inl g7))), (pr, .inl (cL, 48, .inr (.inl p7)))] H := hP
                        have hD : va_D A [(mx, .inr (4, [.int 0, .long sd, .int nt, .ref ro, .ref pl, .ref vl, .int (nI 17), .ref pa, .ref pr])), (pa, .inl (cL, 240, .inr (.inl g7))), (pr, .inl (cL, 48, .inr (.inl p7)))] := hD
                        refine lv_istore (lv' := [(9, .int o_57), (7, .long v7), (0, .ref mx), (1, .int y), (2, .int x), (3, .long (ab9 x)), (5, .long (ab9 y))]) hx hb d_M_angle_202 hl (by decide) rfl (fun ls hl => ?_)
                        refine lv_aload_n hx hb d_M_angle_204 rfl (lv_at hl 2 rfl) ?_
                        refine lv_bipush (v := 17) hx hb d_M_angle_205 (by decide) ?_
                        refine va_put (D := (dC, dI)) (ci := 4) (v := .int 17) (ty := .int) (C := R_M) (T := F_M) (N := 9) hx hb ha ui_M ft_M tk_M nm_M hown hK hP hD hS 0 rfl rfl 6 (by decide) (ha _ wm_M_11) (fun _ h9 => h9) rfl (by decide +kernel) rfl rfl (Nat.le_of_ble_eq_true rfl) d_M_angle_207 (fun H locs hP hD hS => ?_)
                        have hP : va_P (dC, dI) cl9 [(mx, .inr (4, [.int 0, .long sd, .int nt, .ref ro, .ref pl, .ref vl, .int 17, .ref pa, .ref pr])), (pa, .inl (cL, 240, .inr (.inl g7))), (pr, .inl (cL, 48, .inr (.inl p7)))] H := hP
                        have hD : va_D A [(mx, .inr (4, [.int 0, .long sd, .int nt, .ref ro, .ref pl, .ref vl, .int 17, .ref pa, .ref pr])), (pa, .inl (cL, 240, .inr (.inl g7))), (pr, .inl (cL, 48, .inr (.inl p7)))] := hD
                        have hP : va_P (dC, dI) cl9 [(mx, .inr (4, [.int 0, .long sd, .int nt, .ref ro, .ref pl, .ref vl, .int (nI 17), .ref pa, .ref pr])), (pa, .inl (cL, 240, .inr (.inl g7))), (pr, .inl (cL, 48, .inr (.inl p7)))] H := hP
                        have hD : va_D A [(mx, .inr (4, [.int 0, .long sd, .int nt, .ref ro, .ref pl, .ref vl, .int (nI 17), .ref pa, .ref pr])), (pa, .inl (cL, 240, .inr (.inl g7))), (pr, .inl (cL, 48, .inr (.inl p7)))] := hD
                        refine lv_goto (tgt := 101) hx hb d_M_angle_210 (by decide) ?_
                        refine lv_iload hx hb d_M_angle_101 (lv_at hl 0 rfl) ?_
                        refine lv_if_eq (tgt := 213) hx hb d_M_angle_103 (by decide) (fun ho3 => ?_) (fun ho3 => ?_)
                        · refine lv_lload hx hb d_M_angle_213 (lv_at hl 1 rfl) ?_
                          exact ct_lret hF d_M_angle_215 (0, 17, g7, p7) ⟨(show (17 : Nat) ≤ 20 by decide), ((if_neg h1).trans ((if_neg h2).trans ((if_neg h3).trans (if_pos h4)))).symm, ((if_neg h1).trans ((if_neg h2).trans ((if_neg h3).trans ((if_pos h4).trans ((if_pos hy).trans ((if_pos hx0).trans ((if_neg (by rw [eP6]; exact ho2)).trans (by rw [eP6]; exact eV7)))))))).symm⟩ (hP.sub [0, 1, 2] rfl) (hD.sub [0, 1, 2] (by decide) rfl) hK hS
                        · exact absurd ho_57 ho3
              · refine lv_iload_n hx hb d_M_angle_50 rfl (lv_at hl 2 rfl) ?_
                refine lv_if_ne (tgt := 60) hx hb d_M_angle_51 (by decide) (fun hx1 => ?_) (fun hx1 => ?_)
                · refine lv_lconst (v := 0) hx hb d_M_angle_60 (by decide) ?_
                  exact ct_lret hF d_M_angle_61 (0, f, g, p9) ⟨hf9, ((if_neg h1).trans ((if_neg h2).trans ((if_neg h3).trans (if_pos h4)))).symm, ((if_neg h1).trans ((if_neg h2).trans ((if_neg h3).trans ((if_pos h4).trans ((if_pos hy).trans ((if_neg hx0).trans (if_neg hx1))))))).symm⟩ (hP.sub [0, 1, 2] rfl) (hD.sub [0, 1, 2] (by decide) rfl) hK hS
                · refine lv_ldc2 (v := (-9223372036854775808)) hx hb hown (ha _ wm_M_78) d_M_angle_54 ?_
                  refine lv_goto (tgt := 61) hx hb d_M_angle_57 (by decide) ?_
                  exact ct_lret hF d_M_angle_61 (0, f, g, p9) ⟨hf9, ((if_neg h1).trans ((if_neg h2).trans ((if_neg h3).trans (if_pos h4)))).symm, ((if_neg h1).trans ((if_neg h2).trans ((if_neg h3).trans ((if_pos h4).trans ((if_pos hy).trans ((if_neg hx0).trans (if_pos hx1))))))).symm⟩ (hP.sub [0, 1, 2] rfl) (hD.sub [0, 1, 2] (by decide) rfl) hK hS
          · exact absurd (by decide) hq
        · refine lv_iconst (v := 1) hx hb d_M_angle_25 (by decide) ?_
          refine lv_goto (tgt := 30) hx hb d_M_angle_26 (by decide) ?_
          refine va_put (D := (dC, dI)) (ci := 4) (v := .int 1) (ty := .int) (C := R_M) (T := F_M) (N := 9) hx hb ha ui_M ft_M tk_M nm_M hown hK hP hD hS 0 rfl rfl 0 (by decide) (ha _ wm_M_5) (fun _ h9 => h9) rfl (by decide +kernel) rfl rfl (Nat.le_of_ble_eq_true rfl) d_M_angle_30 (fun H locs hP hD hS => ?_)
          have hP : va_P (dC, dI) cl9 [(mx, .inr (4, [.int 1, .long sd, .int nt, .ref ro, .ref pl, .ref vl, .int (nI f), .ref pa, .ref pr])), (pa, .inl (cL, 240, .inr (.inl g))), (pr, .inl (cL, 48, .inr (.inl p9)))] H := hP
          have hD : va_D A [(mx, .inr (4, [.int 1, .long sd, .int nt, .ref ro, .ref pl, .ref vl, .int (nI f), .ref pa, .ref pr])), (pa, .inl (cL, 240, .inr (.inl g))), (pr, .inl (cL, 48, .inr (.inl p9)))] := hD
          refine lv_aload_n hx hb d_M_angle_33 rfl (lv_at hl 0 rfl) ?_
          refine va_get (D := (dC, dI)) (ci := 4) (v := .int 1) (C := R_M) (T := F_M) (N := 9) hx hb ha ui_M hown hK hP 0 rfl rfl 0 (by decide) (ha _ wm_M_5) (fun _ h9 => h9) rfl d_M_angle_34 ?_
          refine lv_if_le (tgt := 42) hx hb d_M_angle_37 (by decide) (fun hq => ?_) (fun hq => ?_)
          · exact absurd hq (by decide)
          · refine lv_lconst (v := 0) hx hb d_M_angle_40 (by decide) ?_
            exact ct_lret hF d_M_angle_41 (1, f, g, p9) ⟨hf9, ((if_neg h1).trans ((if_neg h2).trans ((if_neg h3).trans (if_neg h4)))).symm, ((if_neg h1).trans ((if_neg h2).trans ((if_neg h3).trans (if_neg h4)))).symm⟩ (hP.sub [0, 1, 2] rfl) (hD.sub [0, 1, 2] (by decide) rfl) hK hS
