set_option maxHeartbeats 4000000 in
set_option maxRecDepth 100000 in
/-- the law's case of power -/
theorem ca_power {p : Program} {l : Launch} {e : Env} {s : State} {m : MethodId} {below : List Frame} {meth : Method} {c : Code} {dC : Nat → ClassId} {dI : Nat → Nat → Nat} {b L : Nat} {xs : Nat → Int32} {ot mx : Nat} {sd : Int64} {ro pl vl pa pr : Nat} {cL cI cT : ClassId} {fx tb : Nat} {ad tt : Nat → Nat} {s1 s2 s3 s4 tl th9 ta : Nat} {cells slots : Nat} (hL : L ≤ 2049) (C0 : lw_At p s m meth c b L xs) (hst : l.stackTraces = false) (hG : lg_G s1 s2 s3 s4 tl th9 ta (fun q : Nat => s.heap.size ≤ q) s s.heap) (hK : va_K (dC, dI) cl9 [(cL, .long), (cT, .object "HouseFunctions$Table"), (cI, .int)] s) (hE : EQ_pw) {i : Nat} (hi : i + 3 < L) (hc9 : cells + 4 ≤ 601024) (hs9 : slots + 24 ≤ 7293000)
    (K : ∀ (o : Nat → Int64) (tw : Int32) (n : Nat) (f : Nat) (cc : Nat → Nat) (P9 : Nat → Int32) (V9 : Nat → Int32) (g : Nat → Int64) (p9 : Nat → Int64) (tc : Nat) (T : fq_T) (u : rk_U), lw_J n f cc P9 V9 tc T → ∀ (H : Heap) (locs : List Loc) (ls : Array Slot), va_P (dC, dI) cl9 (lw_ws ot o mx tw sd n ro pl vl f pa pr cL cI cT cc P9 V9 g p9 fx tb ad tt tc T u) H → va_D (fun q : Nat => s.heap.size ≤ q) (lw_ws ot o mx tw sd n ro pl vl f pa pr cL cI cT cc P9 V9 g p9 fx tb ad tt tc T u) → va_S (fun q : Nat => s.heap.size ≤ q) s.heap H locs → lv_has ls 8 [(0, .ref b), (1, .ref fx), (2, .ref mx), (3, .ref ot), (4, .int (nI i))] → W p l e room_1 s m #[Value.ref b] below meth c H locs (cells + 4) (slots + 24) (lw_Z below #[Value.ref b] s) (F0 m 995 ls [])) :
    ∀ (o : Nat → Int64) (tw : Int32) (n : Nat) (f : Nat) (cc : Nat → Nat) (P9 : Nat → Int32) (V9 : Nat → Int32) (g : Nat → Int64) (p9 : Nat → Int64) (tc : Nat) (T : fq_T) (u : rk_U), lw_J n f cc P9 V9 tc T → ∀ (H : Heap) (locs : List Loc) (ls : Array Slot), va_P (dC, dI) cl9 (lw_ws ot o mx tw sd n ro pl vl f pa pr cL cI cT cc P9 V9 g p9 fx tb ad tt tc T u) H → va_D (fun q : Nat => s.heap.size ≤ q) (lw_ws ot o mx tw sd n ro pl vl f pa pr cL cI cT cc P9 V9 g p9 fx tb ad tt tc T u) → va_S (fun q : Nat => s.heap.size ≤ q) s.heap H locs → lv_has ls 8 [(0, .ref b), (1, .ref fx), (2, .ref mx), (3, .ref ot), (4, .int (nI i))] → W p l e room_1 s m #[Value.ref b] below meth c H locs cells slots (lw_Z below #[Value.ref b] s) (F0 m 116 ls []) := by
  obtain ⟨hx, hb, hr, hml, hown, hts, hX, hbl, hlocks, hgv⟩ := C0
  have hA : ∀ q : Nat, s.heap.size ≤ q → (fun q : Nat => s.heap.size ≤ q) q := fun _ h => h
  have hbA : ¬ (fun q : Nat => s.heap.size ≤ q) b := Nat.not_le.mpr hbl
  have ha : ∀ w ∈ al_L, w.before #[Value.ref b] s = true := fun w h => hts w (am_L w h)
  intro o tw n f cc P9 V9 g p9 tc T u hJ H locs ls hP hD hS hl
  refine lv_aload_n hx hb d_law_116 rfl (lv_at hl 1 rfl) ?_
  refine lv_aload_n hx hb d_law_117 rfl (lv_at hl 0 rfl) ?_
  refine lv_iload hx hb d_law_118 (lv_at hl 4 rfl) ?_
  refine lv_iconst (v := 1) hx hb d_law_120 (by decide) ?_
  refine lv_iadd hx hb d_law_121 ?_
  refine lv_topi (fun x_1 ex_1 => ?_)
  obtain rfl : x_1 = nI (i + 1) := ex_1.trans (nI_add i 1)
  refine va_sld hx hb hX hbl hbA hS (vp_in_nI (show i + 1 < L by omega) (by omega)) d_law_122 ?_
  refine lv_topi (fun y_2 ey_2 => ?_)
  obtain rfl : y_2 = xs (i + 1) := ey_2.trans (congrArg xs (nI_clamp (by omega)))
  refine lv_aload_n hx hb d_law_123 rfl (lv_at hl 3 rfl) ?_
  refine cs_calli (vx_runSW (As := [.ref fx, .int (xs (i + 1)), .ref ot]) (rest := []) ⟨hx, hb, hml, hown, hts⟩ (c_L_power l hst dC dI ot o fx sd tb tc ad cL u s1 s2 s3 s4 tl th9 ta (xs (i + 1)) _) (vx_cwSW 3 hts g_law_L_power rfl rfl rfl (by decide +kernel) ⟨Nat.le_of_ble_eq_true rfl, Nat.le_of_ble_eq_true rfl⟩) (ct_pre (lg_Gok s1 s2 s3 s4 tl th9 ta) hG hK hP hD hS hA [0, 7, 27, 28, 29, 30, 31, 32, 33, 34, 35, 36, 37, 38, 39, 40, 41, 42] rfl (by decide) [0] rfl) rfl rfl hl.1 rfl (lv_room (Nat.le_of_ble_eq_true rfl)) d_law_124 ⟨show _ ≤ 601024 by omega, show _ ≤ 7293000 by omega⟩) hP hD hS hA [0, 7, 27, 28, 29, 30, 31, 32, 33, 34, 35, 36, 37, 38, 39, 40, 41, 42] rfl (by decide) (fun _ => rfl) (fun r1 w1 H locs hr1 hP hD hS => ?_)
  obtain ⟨o1, u1⟩ := w1
  obtain ⟨hP, hD⟩ : va_P (dC, dI) cl9 (lw_ws ot o1 mx tw sd n ro pl vl f pa pr cL cI cT cc P9 V9 g p9 fx tb ad tt tc T u1) H ∧ va_D (fun q : Nat => s.heap.size ≤ q) (lw_ws ot o1 mx tw sd n ro pl vl f pa pr cL cI cT cc P9 V9 g p9 fx tb ad tt tc T u1) := ct_eqP (lwsA ot o o1 mx tw sd n ro pl vl f pa pr cL cI cT cc P9 V9 g p9 fx tb ad tt tc T u u1) hP hD
  refine lv_istore (lv' := [(5, .int r1), (0, .ref b), (1, .ref fx), (2, .ref mx), (3, .ref ot), (4, .int (nI i))]) hx hb d_law_127 hl (by decide) rfl (fun ls hl => ?_)
  refine lv_aload_n hx hb d_law_129 rfl (lv_at hl 3 rfl) ?_
  refine lv_aload_n hx hb d_law_130 rfl (lv_at hl 1 rfl) ?_
  refine lv_iload hx hb d_law_131 (lv_at hl 5 rfl) ?_
  refine lv_iconst (v := 1) hx hb d_law_133 (by decide) ?_
  refine lv_iadd hx hb d_law_134 ?_
  refine lv_topi (fun x_3 ex_3 => ?_)
  obtain rfl : x_3 = nI (i + 1) := ex_3.trans (nI_add i 1)
  refine va_sld hx hb hX hbl hbA hS (vp_in_nI (show i + 1 < L by omega) (by omega)) d_law_135 ?_
  refine lv_topi (fun y_4 ey_4 => ?_)
  obtain rfl : y_4 = xs (i + 1) := ey_4.trans (congrArg xs (nI_clamp (by omega)))
  refine cs_calll (va_runV (As := [.int (xs (i + 1))]) (rest := []) ⟨hx, hb, hml, hown, hts⟩ (c_M_power l dC dI mx tw sd (nI n) ro pl vl f pa pr cL g p9 (xs (i + 1)) hJ.1 _) (cwV 1 hts g_law_M_power rfl rfl rfl (by decide +kernel) ⟨Nat.le_of_ble_eq_true rfl, Nat.le_of_ble_eq_true rfl⟩) (ct_preV ct_G0ok trivial hK hP hD hS hA [1, 5, 6] rfl (by decide) [0] rfl 1 4 rfl rfl rfl) rfl rfl hl.1 rfl (lv_room (Nat.le_of_ble_eq_true rfl)) d_law_136 ⟨show _ ≤ 601024 by omega, show _ ≤ 7293000 by omega⟩) hP hD hS hA [1, 5, 6] rfl (by decide) (fun _ => rfl) (fun v2 w2 H locs hv2 hP hD hS => ?_)
  obtain ⟨t2, f2, g2, p2⟩ := w2
  obtain ⟨hf2, ht2, hv2⟩ := hv2
  have hf2 : f2 ≤ 20 := hf2
  obtain ⟨hP, hD⟩ : va_P (dC, dI) cl9 (lw_ws ot o1 mx t2 sd n ro pl vl f2 pa pr cL cI cT cc P9 V9 g2 p2 fx tb ad tt tc T u1) H ∧ va_D (fun q : Nat => s.heap.size ≤ q) (lw_ws ot o1 mx t2 sd n ro pl vl f2 pa pr cL cI cT cc P9 V9 g2 p2 fx tb ad tt tc T u1) := ct_eqP (lwsD ot o1 mx tw t2 sd n ro pl vl f f2 pa pr cL cI cT cc P9 V9 g g2 p9 p2 fx tb ad tt tc T u1) hP hD
  have hJ2 : lw_J n f2 cc P9 V9 tc T := ⟨hf2, hJ.2⟩
  refine lv_lstore (lv' := [(6, .long v2), (5, .int r1), (0, .ref b), (1, .ref fx), (2, .ref mx), (3, .ref ot), (4, .int (nI i))]) hx hb d_law_139 hl (by decide) rfl (fun ls hl => ?_)
  refine lv_aload_n hx hb d_law_141 rfl (lv_at hl 4 rfl) ?_
  refine cs_calli (va_runV (As := []) (rest := []) ⟨hx, hb, hml, hown, hts⟩ (c_M_thrown l dC dI mx t2 sd (nI n) ro pl vl f2 pa pr _) (cwV 0 hts g_law_M_thrown rfl rfl rfl (by decide +kernel) ⟨Nat.le_of_ble_eq_true rfl, Nat.le_of_ble_eq_true rfl⟩) (ct_preV ct_G0ok trivial hK hP hD hS hA [1] rfl (by decide) [] rfl 1 4 rfl rfl rfl) rfl rfl hl.1 rfl (lv_room (Nat.le_of_ble_eq_true rfl)) d_law_142 ⟨show _ ≤ 601024 by omega, show _ ≤ 7293000 by omega⟩) hP hD hS hA [1] rfl (by decide) (fun _ => rfl) (fun r3 w3 H locs hr3 hP hD hS => ?_)
  obtain ⟨hP, hD⟩ : va_P (dC, dI) cl9 (lw_ws ot o1 mx t2 sd n ro pl vl f2 pa pr cL cI cT cc P9 V9 g2 p2 fx tb ad tt tc T u1) H ∧ va_D (fun q : Nat => s.heap.size ≤ q) (lw_ws ot o1 mx t2 sd n ro pl vl f2 pa pr cL cI cT cc P9 V9 g2 p2 fx tb ad tt tc T u1) := ct_eqP (lwsG ot o1 mx t2 t2 sd n ro pl vl f2 pa pr cL cI cT cc P9 V9 g2 p2 fx tb ad tt tc T u1) hP hD
  refine lv_iload hx hb d_law_145 (lv_at hl 1 rfl) ?_
  have h3 : r3 = r1 := by rw [show r3 = t2 from hr3, show t2 = _ from ht2]; rcases hr1 with ⟨e1, h1⟩ | ⟨e1, h1⟩; exact (th_pw0 h1.1).trans e1.symm; exact (th_pw1 h1).trans e1.symm
  refine lv_icmp_eq (tgt := 152) hx hb d_law_147 (by decide) (fun hq => ?_) (fun hq => ?_)
  · refine lv_iload hx hb d_law_152 (lv_at hl 1 rfl) ?_
    refine lv_if_ne (tgt := 168) hx hb d_law_154 (by decide) (fun hz => ?_) (fun hz => ?_)
    · refine lv_goto (tgt := 995) hx hb d_law_168 (by decide) ?_
      refine W.widen (k := cells + 4) (n := slots + 24) (by omega) (by omega) ?_
      exact K o1 t2 n f2 cc P9 V9 g2 p2 tc T u1 hJ2 _ _ _ hP hD hS (lv_sub hl [2, 3, 4, 5, 6] rfl)
    · refine lv_aload_n hx hb d_law_157 rfl (lv_at hl 5 rfl) ?_
      refine lv_iconst (v := 0) hx hb d_law_158 (by decide) ?_
      refine ct_lald hx hb hK hP 0 0 rfl rfl 0 rfl (by omega) (by omega) d_law_159 ?_
      refine lv_lload hx hb d_law_160 (lv_at hl 0 rfl) ?_
      refine ct_jeq (tgt := 168) hx hb d_law_162 d_law_163 (by decide) (fun hy => ?_) (fun hy => ?_)
      · refine lv_goto (tgt := 995) hx hb d_law_168 (by decide) ?_
        refine W.widen (k := cells + 4) (n := slots + 24) (by omega) (by omega) ?_
        exact K o1 t2 n f2 cc P9 V9 g2 p2 tc T u1 hJ2 _ _ _ hP hD hS (lv_sub hl [2, 3, 4, 5, 6] rfl)
      · refine absurd ?_ hy
        rcases hr1 with ⟨e1, h1⟩ | ⟨e1, h1⟩
        · exact (show o1 0 = _ from h1.2).trans ((hE _ _ _ h1.1).trans (show v2 = _ from hv2).symm)
        · exact absurd (e1.symm.trans hz) (by decide)
  · exact absurd h3 hq
set_option maxHeartbeats 4000000 in
set_option maxRecDepth 100000 in
/-- the law's case of sine -/
theorem ca_sine {p : Program} {l : Launch} {e : Env} {s : State} {m : MethodId} {below : List Frame} {meth : Method} {c : Code} {dC : Nat → ClassId} {dI : Nat → Nat → Nat} {b L : Nat} {xs : Nat → Int32} {ot mx : Nat} {sd : Int64} {ro pl vl pa pr : Nat} {cL cI cT : ClassId} {fx tb : Nat} {ad tt : Nat → Nat} {s1 s2 s3 s4 tl th9 ta : Nat} {cells slots : Nat} (hL : L ≤ 2049) (C0 : lw_At p s m meth c b L xs) (hst : l.stackTraces = false) (hG : lg_G s1 s2 s3 s4 tl th9 ta (fun q : Nat => s.heap.size ≤ q) s s.heap) (hK : va_K (dC, dI) cl9 [(cL, .long), (cT, .object "HouseFunctions$Table"), (cI, .int)] s) (hE : EQ_sn) {i : Nat} (hi : i + 3 < L) (hc9 : cells + 4 ≤ 601024) (hs9 : slots + 24 ≤ 7293000)
    (K : ∀ (o : Nat → Int64) (tw : Int32) (n : Nat) (f : Nat) (cc : Nat → Nat) (P9 : Nat → Int32) (V9 : Nat → Int32) (g : Nat → Int64) (p9 : Nat → Int64) (tc : Nat) (T : fq_T) (u : rk_U), lw_J n f cc P9 V9 tc T → ∀ (H : Heap) (locs : List Loc) (ls : Array Slot), va_P (dC, dI) cl9 (lw_ws ot o mx tw sd n ro pl vl f pa pr cL cI cT cc P9 V9 g p9 fx tb ad tt tc T u) H → va_D (fun q : Nat => s.heap.size ≤ q) (lw_ws ot o mx tw sd n ro pl vl f pa pr cL cI cT cc P9 V9 g p9 fx tb ad tt tc T u) → va_S (fun q : Nat => s.heap.size ≤ q) s.heap H locs → lv_has ls 8 [(0, .ref b), (1, .ref fx), (2, .ref mx), (3, .ref ot), (4, .int (nI i))] → W p l e room_1 s m #[Value.ref b] below meth c H locs (cells + 4) (slots + 24) (lw_Z below #[Value.ref b] s) (F0 m 995 ls [])) :
    ∀ (o : Nat → Int64) (tw : Int32) (n : Nat) (f : Nat) (cc : Nat → Nat) (P9 : Nat → Int32) (V9 : Nat → Int32) (g : Nat → Int64) (p9 : Nat → Int64) (tc : Nat) (T : fq_T) (u : rk_U), lw_J n f cc P9 V9 tc T → ∀ (H : Heap) (locs : List Loc) (ls : Array Slot), va_P (dC, dI) cl9 (lw_ws ot o mx tw sd n ro pl vl f pa pr cL cI cT cc P9 V9 g p9 fx tb ad tt tc T u) H → va_D (fun q : Nat => s.heap.size ≤ q) (lw_ws ot o mx tw sd n ro pl vl f pa pr cL cI cT cc P9 V9 g p9 fx tb ad tt tc T u) → va_S (fun q : Nat => s.heap.size ≤ q) s.heap H locs → lv_has ls 8 [(0, .ref b), (1, .ref fx), (2, .ref mx), (3, .ref ot), (4, .int (nI i))] → W p l e room_1 s m #[Value.ref b] below meth c H locs cells slots (lw_Z below #[Value.ref b] s) (F0 m 258 ls []) := by
  obtain ⟨hx, hb, hr, hml, hown, hts, hX, hbl, hlocks, hgv⟩ := C0
  have hA : ∀ q : Nat, s.heap.size ≤ q → (fun q : Nat => s.heap.size ≤ q) q := fun _ h => h
  have hbA : ¬ (fun q : Nat => s.heap.size ≤ q) b := Nat.not_le.mpr hbl
  have ha : ∀ w ∈ al_L, w.before #[Value.ref b] s = true := fun w h => hts w (am_L w h)
  intro o tw n f cc P9 V9 g p9 tc T u hJ H locs ls hP hD hS hl
  refine lv_aload_n hx hb d_law_258 rfl (lv_at hl 1 rfl) ?_
  refine lv_aload_n hx hb d_law_259 rfl (lv_at hl 0 rfl) ?_
  refine lv_iload hx hb d_law_260 (lv_at hl 4 rfl) ?_
  refine lv_iconst (v := 1) hx hb d_law_262 (by decide) ?_
  refine lv_iadd hx hb d_law_263 ?_
  refine lv_topi (fun x_1 ex_1 => ?_)
  obtain rfl : x_1 = nI (i + 1) := ex_1.trans (nI_add i 1)
  refine va_sld hx hb hX hbl hbA hS (vp_in_nI (show i + 1 < L by omega) (by omega)) d_law_264 ?_
  refine lv_topi (fun y_2 ey_2 => ?_)
  obtain rfl : y_2 = xs (i + 1) := ey_2.trans (congrArg xs (nI_clamp (by omega)))
  refine lv_aload_n hx hb d_law_265 rfl (lv_at hl 3 rfl) ?_
  refine cs_calli (vx_runSW (As := [.ref fx, .int (xs (i + 1)), .ref ot]) (rest := []) ⟨hx, hb, hml, hown, hts⟩ (c_L_sine l hst dC dI ot o fx sd tb tc ad cL u s1 s2 s3 s4 tl th9 ta (xs (i + 1)) _) (vx_cwSW 3 hts g_law_L_sine rfl rfl rfl (by decide +kernel) ⟨Nat.le_of_ble_eq_true rfl, Nat.le_of_ble_eq_true rfl⟩) (ct_pre (lg_Gok s1 s2 s3 s4 tl th9 ta) hG hK hP hD hS hA [0, 7, 27, 28, 29, 30, 31, 32, 33, 34, 35, 36, 37, 38, 39, 40, 41, 42] rfl (by decide) [0] rfl) rfl rfl hl.1 rfl (lv_room (Nat.le_of_ble_eq_true rfl)) d_law_266 ⟨show _ ≤ 601024 by omega, show _ ≤ 7293000 by omega⟩) hP hD hS hA [0, 7, 27, 28, 29, 30, 31, 32, 33, 34, 35, 36, 37, 38, 39, 40, 41, 42] rfl (by decide) (fun _ => rfl) (fun r1 w1 H locs hr1 hP hD hS => ?_)
  obtain ⟨o1, u1⟩ := w1
  obtain ⟨hP, hD⟩ : va_P (dC, dI) cl9 (lw_ws ot o1 mx tw sd n ro pl vl f pa pr cL cI cT cc P9 V9 g p9 fx tb ad tt tc T u1) H ∧ va_D (fun q : Nat => s.heap.size ≤ q) (lw_ws ot o1 mx tw sd n ro pl vl f pa pr cL cI cT cc P9 V9 g p9 fx tb ad tt tc T u1) := ct_eqP (lwsA ot o o1 mx tw sd n ro pl vl f pa pr cL cI cT cc P9 V9 g p9 fx tb ad tt tc T u u1) hP hD
  refine lv_istore (lv' := [(5, .int r1), (0, .ref b), (1, .ref fx), (2, .ref mx), (3, .ref ot), (4, .int (nI i))]) hx hb d_law_269 hl (by decide) rfl (fun ls hl => ?_)
  refine lv_aload_n hx hb d_law_271 rfl (lv_at hl 3 rfl) ?_
  refine lv_aload_n hx hb d_law_272 rfl (lv_at hl 1 rfl) ?_
  refine lv_iload hx hb d_law_273 (lv_at hl 5 rfl) ?_
  refine lv_iconst (v := 1) hx hb d_law_275 (by decide) ?_
  refine lv_iadd hx hb d_law_276 ?_
  refine lv_topi (fun x_3 ex_3 => ?_)
  obtain rfl : x_3 = nI (i + 1) := ex_3.trans (nI_add i 1)
  refine va_sld hx hb hX hbl hbA hS (vp_in_nI (show i + 1 < L by omega) (by omega)) d_law_277 ?_
  refine lv_topi (fun y_4 ey_4 => ?_)
  obtain rfl : y_4 = xs (i + 1) := ey_4.trans (congrArg xs (nI_clamp (by omega)))
  refine cs_calll (va_runV (As := [.int (xs (i + 1))]) (rest := []) ⟨hx, hb, hml, hown, hts⟩ (c_M_sine l dC dI mx tw sd (nI n) ro pl vl f pa pr cL g p9 (xs (i + 1)) hJ.1 _) (cwV 1 hts g_law_M_sine rfl rfl rfl (by decide +kernel) ⟨Nat.le_of_ble_eq_true rfl, Nat.le_of_ble_eq_true rfl⟩) (ct_preV ct_G0ok trivial hK hP hD hS hA [1, 5, 6] rfl (by decide) [0] rfl 1 4 rfl rfl rfl) rfl rfl hl.1 rfl (lv_room (Nat.le_of_ble_eq_true rfl)) d_law_278 ⟨show _ ≤ 601024 by omega, show _ ≤ 7293000 by omega⟩) hP hD hS hA [1, 5, 6] rfl (by decide) (fun _ => rfl) (fun v2 w2 H locs hv2 hP hD hS => ?_)
  obtain ⟨t2, f2, g2, p2⟩ := w2
  obtain ⟨hf2, ht2, hv2⟩ := hv2
  have hf2 : f2 ≤ 20 := hf2
  obtain ⟨hP, hD⟩ : va_P (dC, dI) cl9 (lw_ws ot o1 mx t2 sd n ro pl vl f2 pa pr cL cI cT cc P9 V9 g2 p2 fx tb ad tt tc T u1) H ∧ va_D (fun q : Nat => s.heap.size ≤ q) (lw_ws ot o1 mx t2 sd n ro pl vl f2 pa pr cL cI cT cc P9 V9 g2 p2 fx tb ad tt tc T u1) := ct_eqP (lwsD ot o1 mx tw t2 sd n ro pl vl f f2 pa pr cL cI cT cc P9 V9 g g2 p9 p2 fx tb ad tt tc T u1) hP hD
  have hJ2 : lw_J n f2 cc P9 V9 tc T := ⟨hf2, hJ.2⟩
  refine lv_lstore (lv' := [(6, .long v2), (5, .int r1), (0, .ref b), (1, .ref fx), (2, .ref mx), (3, .ref ot), (4, .int (nI i))]) hx hb d_law_281 hl (by decide) rfl (fun ls hl => ?_)
  refine lv_aload_n hx hb d_law_283 rfl (lv_at hl 4 rfl) ?_
  refine cs_calli (va_runV (As := []) (rest := []) ⟨hx, hb, hml, hown, hts⟩ (c_M_thrown l dC dI mx t2 sd (nI n) ro pl vl f2 pa pr _) (cwV 0 hts g_law_M_thrown rfl rfl rfl (by decide +kernel) ⟨Nat.le_of_ble_eq_true rfl, Nat.le_of_ble_eq_true rfl⟩) (ct_preV ct_G0ok trivial hK hP hD hS hA [1] rfl (by decide) [] rfl 1 4 rfl rfl rfl) rfl rfl hl.1 rfl (lv_room (Nat.le_of_ble_eq_true rfl)) d_law_284 ⟨show _ ≤ 601024 by omega, show _ ≤ 7293000 by omega⟩) hP hD hS hA [1] rfl (by decide) (fun _ => rfl) (fun r3 w3 H locs hr3 hP hD hS => ?_)
  obtain ⟨hP, hD⟩ : va_P (dC, dI) cl9 (lw_ws ot o1 mx t2 sd n ro pl vl f2 pa pr cL cI cT cc P9 V9 g2 p2 fx tb ad tt tc T u1) H ∧ va_D (fun q : Nat => s.heap.size ≤ q) (lw_ws ot o1 mx t2 sd n ro pl vl f2 pa pr cL cI cT cc P9 V9 g2 p2 fx tb ad tt tc T u1) := ct_eqP (lwsG ot o1 mx t2 t2 sd n ro pl vl f2 pa pr cL cI cT cc P9 V9 g2 p2 fx tb ad tt tc T u1) hP hD
  refine lv_iload hx hb d_law_287 (lv_at hl 1 rfl) ?_
  have h3 : r3 = r1 := by rw [show r3 = t2 from hr3, show t2 = _ from ht2]; rcases hr1 with ⟨e1, h1⟩ | ⟨e1, h1⟩; exact (th_wv0 h1.1).trans e1.symm; exact (th_wv1 h1).trans e1.symm
  refine lv_icmp_eq (tgt := 294) hx hb d_law_289 (by decide) (fun hq => ?_) (fun hq => ?_)
  · refine lv_iload hx hb d_law_294 (lv_at hl 1 rfl) ?_
    refine lv_if_ne (tgt := 310) hx hb d_law_296 (by decide) (fun hz => ?_) (fun hz => ?_)
    · refine lv_goto (tgt := 995) hx hb d_law_310 (by decide) ?_
      refine W.widen (k := cells + 4) (n := slots + 24) (by omega) (by omega) ?_
      exact K o1 t2 n f2 cc P9 V9 g2 p2 tc T u1 hJ2 _ _ _ hP hD hS (lv_sub hl [2, 3, 4, 5, 6] rfl)
    · refine lv_aload_n hx hb d_law_299 rfl (lv_at hl 5 rfl) ?_
      refine lv_iconst (v := 0) hx hb d_law_300 (by decide) ?_
      refine ct_lald hx hb hK hP 0 0 rfl rfl 0 rfl (by omega) (by omega) d_law_301 ?_
      refine lv_lload hx hb d_law_302 (lv_at hl 0 rfl) ?_
      refine ct_jeq (tgt := 310) hx hb d_law_304 d_law_305 (by decide) (fun hy => ?_) (fun hy => ?_)
      · refine lv_goto (tgt := 995) hx hb d_law_310 (by decide) ?_
        refine W.widen (k := cells + 4) (n := slots + 24) (by omega) (by omega) ?_
        exact K o1 t2 n f2 cc P9 V9 g2 p2 tc T u1 hJ2 _ _ _ hP hD hS (lv_sub hl [2, 3, 4, 5, 6] rfl)
      · refine absurd ?_ hy
        rcases hr1 with ⟨e1, h1⟩ | ⟨e1, h1⟩
        · exact (show o1 0 = _ from h1.2).trans ((hE _ _ _ h1.1).trans (show v2 = _ from hv2).symm)
        · exact absurd (e1.symm.trans hz) (by decide)
  · exact absurd h3 hq
set_option maxHeartbeats 4000000 in
set_option maxRecDepth 100000 in
/-- the law's case of cosine -/
theorem ca_cosine {p : Program} {l : Launch} {e : Env} {s : State} {m : MethodId} {below : List Frame} {meth : Method} {c : Code} {dC : Nat → ClassId} {dI : Nat → Nat → Nat} {b L : Nat} {xs : Nat → Int32} {ot mx : Nat} {sd : Int64} {ro pl vl pa pr : Nat} {cL cI cT : ClassId} {fx tb : Nat} {ad tt : Nat → Nat} {s1 s2 s3 s4 tl th9 ta : Nat} {cells slots : Nat} (hL : L ≤ 2049) (C0 : lw_At p s m meth c b L xs) (hst : l.stackTraces = false) (hG : lg_G s1 s2 s3 s4 tl th9 ta (fun q : Nat => s.heap.size ≤ q) s s.heap) (hK : va_K (dC, dI) cl9 [(cL, .long), (cT, .object "HouseFunctions$Table"), (cI, .int)] s) (hE : EQ_cs) {i : Nat} (hi : i + 3 < L) (hc9 : cells + 4 ≤ 601024) (hs9 : slots + 24 ≤ 7293000)
    (K : ∀ (o : Nat → Int64) (tw : Int32) (n : Nat) (f : Nat) (cc : Nat → Nat) (P9 : Nat → Int32) (V9 : Nat → Int32) (g : Nat → Int64) (p9 : Nat → Int64) (tc : Nat) (T : fq_T) (u : rk_U), lw_J n f cc P9 V9 tc T → ∀ (H : Heap) (locs : List Loc) (ls : Array Slot), va_P (dC, dI) cl9 (lw_ws ot o mx tw sd n ro pl vl f pa pr cL cI cT cc P9 V9 g p9 fx tb ad tt tc T u) H → va_D (fun q : Nat => s.heap.size ≤ q) (lw_ws ot o mx tw sd n ro pl vl f pa pr cL cI cT cc P9 V9 g p9 fx tb ad tt tc T u) → va_S (fun q : Nat => s.heap.size ≤ q) s.heap H locs → lv_has ls 8 [(0, .ref b), (1, .ref fx), (2, .ref mx), (3, .ref ot), (4, .int (nI i))] → W p l e room_1 s m #[Value.ref b] below meth c H locs (cells + 4) (slots + 24) (lw_Z below #[Value.ref b] s) (F0 m 995 ls [])) :
    ∀ (o : Nat → Int64) (tw : Int32) (n : Nat) (f : Nat) (cc : Nat → Nat) (P9 : Nat → Int32) (V9 : Nat → Int32) (g : Nat → Int64) (p9 : Nat → Int64) (tc : Nat) (T : fq_T) (u : rk_U), lw_J n f cc P9 V9 tc T → ∀ (H : Heap) (locs : List Loc) (ls : Array Slot), va_P (dC, dI) cl9 (lw_ws ot o mx tw sd n ro pl vl f pa pr cL cI cT cc P9 V9 g p9 fx tb ad tt tc T u) H → va_D (fun q : Nat => s.heap.size ≤ q) (lw_ws ot o mx tw sd n ro pl vl f pa pr cL cI cT cc P9 V9 g p9 fx tb ad tt tc T u) → va_S (fun q : Nat => s.heap.size ≤ q) s.heap H locs → lv_has ls 8 [(0, .ref b), (1, .ref fx), (2, .ref mx), (3, .ref ot), (4, .int (nI i))] → W p l e room_1 s m #[Value.ref b] below meth c H locs cells slots (lw_Z below #[Value.ref b] s) (F0 m 313 ls []) := by
  obtain ⟨hx, hb, hr, hml, hown, hts, hX, hbl, hlocks, hgv⟩ := C0
  have hA : ∀ q : Nat, s.heap.size ≤ q → (fun q : Nat => s.heap.size ≤ q) q := fun _ h => h
  have hbA : ¬ (fun q : Nat => s.heap.size ≤ q) b := Nat.not_le.mpr hbl
  have ha : ∀ w ∈ al_L, w.before #[Value.ref b] s = true := fun w h => hts w (am_L w h)
  intro o tw n f cc P9 V9 g p9 tc T u hJ H locs ls hP hD hS hl
  refine lv_aload_n hx hb d_law_313 rfl (lv_at hl 1 rfl) ?_
  refine lv_aload_n hx hb d_law_314 rfl (lv_at hl 0 rfl) ?_
  refine lv_iload hx hb d_law_315 (lv_at hl 4 rfl) ?_
  refine lv_iconst (v := 1) hx hb d_law_317 (by decide) ?_
  refine lv_iadd hx hb d_law_318 ?_
  refine lv_topi (fun x_1 ex_1 => ?_)
  obtain rfl : x_1 = nI (i + 1) := ex_1.trans (nI_add i 1)
  refine va_sld hx hb hX hbl hbA hS (vp_in_nI (show i + 1 < L by omega) (by omega)) d_law_319 ?_
  refine lv_topi (fun y_2 ey_2 => ?_)
  obtain rfl : y_2 = xs (i + 1) := ey_2.trans (congrArg xs (nI_clamp (by omega)))
  refine lv_aload_n hx hb d_law_320 rfl (lv_at hl 3 rfl) ?_
  refine cs_calli (vx_runSW (As := [.ref fx, .int (xs (i + 1)), .ref ot]) (rest := []) ⟨hx, hb, hml, hown, hts⟩ (c_L_cosine l hst dC dI ot o fx sd tb tc ad cL u s1 s2 s3 s4 tl th9 ta (xs (i + 1)) _) (vx_cwSW 3 hts g_law_L_cosine rfl rfl rfl (by decide +kernel) ⟨Nat.le_of_ble_eq_true rfl, Nat.le_of_ble_eq_true rfl⟩) (ct_pre (lg_Gok s1 s2 s3 s4 tl th9 ta) hG hK hP hD hS hA [0, 7, 27, 28, 29, 30, 31, 32, 33, 34, 35, 36, 37, 38, 39, 40, 41, 42] rfl (by decide) [0] rfl) rfl rfl hl.1 rfl (lv_room (Nat.le_of_ble_eq_true rfl)) d_law_321 ⟨show _ ≤ 601024 by omega, show _ ≤ 7293000 by omega⟩) hP hD hS hA [0, 7, 27, 28, 29, 30, 31, 32, 33, 34, 35, 36, 37, 38, 39, 40, 41, 42] rfl (by decide) (fun _ => rfl) (fun r1 w1 H locs hr1 hP hD hS => ?_)
  obtain ⟨o1, u1⟩ := w1
  obtain ⟨hP, hD⟩ : va_P (dC, dI) cl9 (lw_ws ot o1 mx tw sd n ro pl vl f pa pr cL cI cT cc P9 V9 g p9 fx tb ad tt tc T u1) H ∧ va_D (fun q : Nat => s.heap.size ≤ q) (lw_ws ot o1 mx tw sd n ro pl vl f pa pr cL cI cT cc P9 V9 g p9 fx tb ad tt tc T u1) := ct_eqP (lwsA ot o o1 mx tw sd n ro pl vl f pa pr cL cI cT cc P9 V9 g p9 fx tb ad tt tc T u u1) hP hD
  refine lv_istore (lv' := [(5, .int r1), (0, .ref b), (1, .ref fx), (2, .ref mx), (3, .ref ot), (4, .int (nI i))]) hx hb d_law_324 hl (by decide) rfl (fun ls hl => ?_)
  refine lv_aload_n hx hb d_law_326 rfl (lv_at hl 3 rfl) ?_
  refine lv_aload_n hx hb d_law_327 rfl (lv_at hl 1 rfl) ?_
  refine lv_iload hx hb d_law_328 (lv_at hl 5 rfl) ?_
  refine lv_iconst (v := 1) hx hb d_law_330 (by decide) ?_
  refine lv_iadd hx hb d_law_331 ?_
  refine lv_topi (fun x_3 ex_3 => ?_)
  obtain rfl : x_3 = nI (i + 1) := ex_3.trans (nI_add i 1)
  refine va_sld hx hb hX hbl hbA hS (vp_in_nI (show i + 1 < L by omega) (by omega)) d_law_332 ?_
  refine lv_topi (fun y_4 ey_4 => ?_)
  obtain rfl : y_4 = xs (i + 1) := ey_4.trans (congrArg xs (nI_clamp (by omega)))
  refine cs_calll (va_runV (As := [.int (xs (i + 1))]) (rest := []) ⟨hx, hb, hml, hown, hts⟩ (c_M_cosine l dC dI mx tw sd (nI n) ro pl vl f pa pr cL g p9 (xs (i + 1)) hJ.1 _) (cwV 1 hts g_law_M_cosine rfl rfl rfl (by decide +kernel) ⟨Nat.le_of_ble_eq_true rfl, Nat.le_of_ble_eq_true rfl⟩) (ct_preV ct_G0ok trivial hK hP hD hS hA [1, 5, 6] rfl (by decide) [0] rfl 1 4 rfl rfl rfl) rfl rfl hl.1 rfl (lv_room (Nat.le_of_ble_eq_true rfl)) d_law_333 ⟨show _ ≤ 601024 by omega, show _ ≤ 7293000 by omega⟩) hP hD hS hA [1, 5, 6] rfl (by decide) (fun _ => rfl) (fun v2 w2 H locs hv2 hP hD hS => ?_)
  obtain ⟨t2, f2, g2, p2⟩ := w2
  obtain ⟨hf2, ht2, hv2⟩ := hv2
  have hf2 : f2 ≤ 20 := hf2
  obtain ⟨hP, hD⟩ : va_P (dC, dI) cl9 (lw_ws ot o1 mx t2 sd n ro pl vl f2 pa pr cL cI cT cc P9 V9 g2 p2 fx tb ad tt tc T u1) H ∧ va_D (fun q : Nat => s.heap.size ≤ q) (lw_ws ot o1 mx t2 sd n ro pl vl f2 pa pr cL cI cT cc P9 V9 g2 p2 fx tb ad tt tc T u1) := ct_eqP (lwsD ot o1 mx tw t2 sd n ro pl vl f f2 pa pr cL cI cT cc P9 V9 g g2 p9 p2 fx tb ad tt tc T u1) hP hD
  have hJ2 : lw_J n f2 cc P9 V9 tc T := ⟨hf2, hJ.2⟩
  refine lv_lstore (lv' := [(6, .long v2), (5, .int r1), (0, .ref b), (1, .ref fx), (2, .ref mx), (3, .ref ot), (4, .int (nI i))]) hx hb d_law_336 hl (by decide) rfl (fun ls hl => ?_)
  refine lv_aload_n hx hb d_law_338 rfl (lv_at hl 4 rfl) ?_
  refine cs_calli (va_runV (As := []) (rest := []) ⟨hx, hb, hml, hown, hts⟩ (c_M_thrown l dC dI mx t2 sd (nI n) ro pl vl f2 pa pr _) (cwV 0 hts g_law_M_thrown rfl rfl rfl (by decide +kernel) ⟨Nat.le_of_ble_eq_true rfl, Nat.le_of_ble_eq_true rfl⟩) (ct_preV ct_G0ok trivial hK hP hD hS hA [1] rfl (by decide) [] rfl 1 4 rfl rfl rfl) rfl rfl hl.1 rfl (lv_room (Nat.le_of_ble_eq_true rfl)) d_law_339 ⟨show _ ≤ 601024 by omega, show _ ≤ 7293000 by omega⟩) hP hD hS hA [1] rfl (by decide) (fun _ => rfl) (fun r3 w3 H locs hr3 hP hD hS => ?_)
  obtain ⟨hP, hD⟩ : va_P (dC, dI) cl9 (lw_ws ot o1 mx t2 sd n ro pl vl f2 pa pr cL cI cT cc P9 V9 g2 p2 fx tb ad tt tc T u1) H ∧ va_D (fun q : Nat => s.heap.size ≤ q) (lw_ws ot o1 mx t2 sd n ro pl vl f2 pa pr cL cI cT cc P9 V9 g2 p2 fx tb ad tt tc T u1) := ct_eqP (lwsG ot o1 mx t2 t2 sd n ro pl vl f2 pa pr cL cI cT cc P9 V9 g2 p2 fx tb ad tt tc T u1) hP hD
  refine lv_iload hx hb d_law_342 (lv_at hl 1 rfl) ?_
  have h3 : r3 = r1 := by rw [show r3 = t2 from hr3, show t2 = _ from ht2]; rcases hr1 with ⟨e1, h1⟩ | ⟨e1, h1⟩; exact (th_wv0 h1.1).trans e1.symm; exact (th_wv1 h1).trans e1.symm
  refine lv_icmp_eq (tgt := 349) hx hb d_law_344 (by decide) (fun hq => ?_) (fun hq => ?_)
  · refine lv_iload hx hb d_law_349 (lv_at hl 1 rfl) ?_
    refine lv_if_ne (tgt := 365) hx hb d_law_351 (by decide) (fun hz => ?_) (fun hz => ?_)
    · refine lv_goto (tgt := 995) hx hb d_law_365 (by decide) ?_
      refine W.widen (k := cells + 4) (n := slots + 24) (by omega) (by omega) ?_
      exact K o1 t2 n f2 cc P9 V9 g2 p2 tc T u1 hJ2 _ _ _ hP hD hS (lv_sub hl [2, 3, 4, 5, 6] rfl)
    · refine lv_aload_n hx hb d_law_354 rfl (lv_at hl 5 rfl) ?_
      refine lv_iconst (v := 0) hx hb d_law_355 (by decide) ?_
      refine ct_lald hx hb hK hP 0 0 rfl rfl 0 rfl (by omega) (by omega) d_law_356 ?_
      refine lv_lload hx hb d_law_357 (lv_at hl 0 rfl) ?_
      refine ct_jeq (tgt := 365) hx hb d_law_359 d_law_360 (by decide) (fun hy => ?_) (fun hy => ?_)
      · refine lv_goto (tgt := 995) hx hb d_law_365 (by decide) ?_
        refine W.widen (k := cells + 4) (n := slots + 24) (by omega) (by omega) ?_
        exact K o1 t2 n f2 cc P9 V9 g2 p2 tc T u1 hJ2 _ _ _ hP hD hS (lv_sub hl [2, 3, 4, 5, 6] rfl)
      · refine absurd ?_ hy
        rcases hr1 with ⟨e1, h1⟩ | ⟨e1, h1⟩
        · exact (show o1 0 = _ from h1.2).trans ((hE _ _ _ h1.1).trans (show v2 = _ from hv2).symm)
        · exact absurd (e1.symm.trans hz) (by decide)
  · exact absurd h3 hq
set_option maxHeartbeats 4000000 in
set_option maxRecDepth 100000 in
/-- the law's case of damp -/
theorem ca_damp {p : Program} {l : Launch} {e : Env} {s : State} {m : MethodId} {below : List Frame} {meth : Method} {c : Code} {dC : Nat → ClassId} {dI : Nat → Nat → Nat} {b L : Nat} {xs : Nat → Int32} {ot mx : Nat} {sd : Int64} {ro pl vl pa pr : Nat} {cL cI cT : ClassId} {fx tb : Nat} {ad tt : Nat → Nat} {s1 s2 s3 s4 tl th9 ta : Nat} {cells slots : Nat} (hL : L ≤ 2049) (C0 : lw_At p s m meth c b L xs) (hst : l.stackTraces = false) (hG : lg_G s1 s2 s3 s4 tl th9 ta (fun q : Nat => s.heap.size ≤ q) s s.heap) (hK : va_K (dC, dI) cl9 [(cL, .long), (cT, .object "HouseFunctions$Table"), (cI, .int)] s) (hE : EQ_dp) {i : Nat} (hi : i + 3 < L) (hc9 : cells + 4 ≤ 601024) (hs9 : slots + 24 ≤ 7293000)
    (K : ∀ (o : Nat → Int64) (tw : Int32) (n : Nat) (f : Nat) (cc : Nat → Nat) (P9 : Nat → Int32) (V9 : Nat → Int32) (g : Nat → Int64) (p9 : Nat → Int64) (tc : Nat) (T : fq_T) (u : rk_U), lw_J n f cc P9 V9 tc T → ∀ (H : Heap) (locs : List Loc) (ls : Array Slot), va_P (dC, dI) cl9 (lw_ws ot o mx tw sd n ro pl vl f pa pr cL cI cT cc P9 V9 g p9 fx tb ad tt tc T u) H → va_D (fun q : Nat => s.heap.size ≤ q) (lw_ws ot o mx tw sd n ro pl vl f pa pr cL cI cT cc P9 V9 g p9 fx tb ad tt tc T u) → va_S (fun q : Nat => s.heap.size ≤ q) s.heap H locs → lv_has ls 8 [(0, .ref b), (1, .ref fx), (2, .ref mx), (3, .ref ot), (4, .int (nI i))] → W p l e room_1 s m #[Value.ref b] below meth c H locs (cells + 4) (slots + 24) (lw_Z below #[Value.ref b] s) (F0 m 995 ls [])) :
    ∀ (o : Nat → Int64) (tw : Int32) (n : Nat) (f : Nat) (cc : Nat → Nat) (P9 : Nat → Int32) (V9 : Nat → Int32) (g : Nat → Int64) (p9 : Nat → Int64) (tc : Nat) (T : fq_T) (u : rk_U), lw_J n f cc P9 V9 tc T → ∀ (H : Heap) (locs : List Loc) (ls : Array Slot), va_P (dC, dI) cl9 (lw_ws ot o mx tw sd n ro pl vl f pa pr cL cI cT cc P9 V9 g p9 fx tb ad tt tc T u) H → va_D (fun q : Nat => s.heap.size ≤ q) (lw_ws ot o mx tw sd n ro pl vl f pa pr cL cI cT cc P9 V9 g p9 fx tb ad tt tc T u) → va_S (fun q : Nat => s.heap.size ≤ q) s.heap H locs → lv_has ls 8 [(0, .ref b), (1, .ref fx), (2, .ref mx), (3, .ref ot), (4, .int (nI i))] → W p l e room_1 s m #[Value.ref b] below meth c H locs cells slots (lw_Z below #[Value.ref b] s) (F0 m 534 ls []) := by
  obtain ⟨hx, hb, hr, hml, hown, hts, hX, hbl, hlocks, hgv⟩ := C0
  have hA : ∀ q : Nat, s.heap.size ≤ q → (fun q : Nat => s.heap.size ≤ q) q := fun _ h => h
  have hbA : ¬ (fun q : Nat => s.heap.size ≤ q) b := Nat.not_le.mpr hbl
  have ha : ∀ w ∈ al_L, w.before #[Value.ref b] s = true := fun w h => hts w (am_L w h)
  intro o tw n f cc P9 V9 g p9 tc T u hJ H locs ls hP hD hS hl
  refine lv_aload_n hx hb d_law_534 rfl (lv_at hl 1 rfl) ?_
  refine lv_aload_n hx hb d_law_535 rfl (lv_at hl 0 rfl) ?_
  refine lv_iload hx hb d_law_536 (lv_at hl 4 rfl) ?_
  refine lv_iconst (v := 1) hx hb d_law_538 (by decide) ?_
  refine lv_iadd hx hb d_law_539 ?_
  refine lv_topi (fun x_1 ex_1 => ?_)
  obtain rfl : x_1 = nI (i + 1) := ex_1.trans (nI_add i 1)
  refine va_sld hx hb hX hbl hbA hS (vp_in_nI (show i + 1 < L by omega) (by omega)) d_law_540 ?_
  refine lv_topi (fun y_2 ey_2 => ?_)
  obtain rfl : y_2 = xs (i + 1) := ey_2.trans (congrArg xs (nI_clamp (by omega)))
  refine lv_aload_n hx hb d_law_541 rfl (lv_at hl 0 rfl) ?_
  refine lv_iload hx hb d_law_542 (lv_at hl 4 rfl) ?_
  refine lv_iconst (v := 2) hx hb d_law_544 (by decide) ?_
  refine lv_iadd hx hb d_law_545 ?_
  refine lv_topi (fun x_3 ex_3 => ?_)
  obtain rfl : x_3 = nI (i + 2) := ex_3.trans (nI_add i 2)
  refine va_sld hx hb hX hbl hbA hS (vp_in_nI (show i + 2 < L by omega) (by omega)) d_law_546 ?_
  refine lv_topi (fun y_4 ey_4 => ?_)
  obtain rfl : y_4 = xs (i + 2) := ey_4.trans (congrArg xs (nI_clamp (by omega)))
  refine lv_aload_n hx hb d_law_547 rfl (lv_at hl 3 rfl) ?_
  refine cs_calli (vx_runSW (As := [.ref fx, .int (xs (i + 1)), .int (xs (i + 2)), .ref ot]) (rest := []) ⟨hx, hb, hml, hown, hts⟩ (c_L_damp l hst dC dI ot o fx sd tb tc ad cL u s1 s2 s3 s4 tl th9 ta (xs (i + 1)) (xs (i + 2)) _) (vx_cwSW 4 hts g_law_L_damp rfl rfl rfl (by decide +kernel) ⟨Nat.le_of_ble_eq_true rfl, Nat.le_of_ble_eq_true rfl⟩) (ct_pre (lg_Gok s1 s2 s3 s4 tl th9 ta) hG hK hP hD hS hA [0, 7, 27, 28, 29, 30, 31, 32, 33, 34, 35, 36, 37, 38, 39, 40, 41, 42] rfl (by decide) [0] rfl) rfl rfl hl.1 rfl (lv_room (Nat.le_of_ble_eq_true rfl)) d_law_548 ⟨show _ ≤ 601024 by omega, show _ ≤ 7293000 by omega⟩) hP hD hS hA [0, 7, 27, 28, 29, 30, 31, 32, 33, 34, 35, 36, 37, 38, 39, 40, 41, 42] rfl (by decide) (fun _ => rfl) (fun r1 w1 H locs hr1 hP hD hS => ?_)
  obtain ⟨o1, u1⟩ := w1
  obtain ⟨hP, hD⟩ : va_P (dC, dI) cl9 (lw_ws ot o1 mx tw sd n ro pl vl f pa pr cL cI cT cc P9 V9 g p9 fx tb ad tt tc T u1) H ∧ va_D (fun q : Nat => s.heap.size ≤ q) (lw_ws ot o1 mx tw sd n ro pl vl f pa pr cL cI cT cc P9 V9 g p9 fx tb ad tt tc T u1) := ct_eqP (lwsA ot o o1 mx tw sd n ro pl vl f pa pr cL cI cT cc P9 V9 g p9 fx tb ad tt tc T u u1) hP hD
  refine lv_istore (lv' := [(5, .int r1), (0, .ref b), (1, .ref fx), (2, .ref mx), (3, .ref ot), (4, .int (nI i))]) hx hb d_law_551 hl (by decide) rfl (fun ls hl => ?_)
  refine lv_aload_n hx hb d_law_553 rfl (lv_at hl 3 rfl) ?_
  refine lv_aload_n hx hb d_law_554 rfl (lv_at hl 1 rfl) ?_
  refine lv_iload hx hb d_law_555 (lv_at hl 5 rfl) ?_
  refine lv_iconst (v := 1) hx hb d_law_557 (by decide) ?_
  refine lv_iadd hx hb d_law_558 ?_
  refine lv_topi (fun x_5 ex_5 => ?_)
  obtain rfl : x_5 = nI (i + 1) := ex_5.trans (nI_add i 1)
  refine va_sld hx hb hX hbl hbA hS (vp_in_nI (show i + 1 < L by omega) (by omega)) d_law_559 ?_
  refine lv_topi (fun y_6 ey_6 => ?_)
  obtain rfl : y_6 = xs (i + 1) := ey_6.trans (congrArg xs (nI_clamp (by omega)))
  refine lv_aload_n hx hb d_law_560 rfl (lv_at hl 1 rfl) ?_
  refine lv_iload hx hb d_law_561 (lv_at hl 5 rfl) ?_
  refine lv_iconst (v := 2) hx hb d_law_563 (by decide) ?_
  refine lv_iadd hx hb d_law_564 ?_
  refine lv_topi (fun x_7 ex_7 => ?_)
  obtain rfl : x_7 = nI (i + 2) := ex_7.trans (nI_add i 2)
  refine va_sld hx hb hX hbl hbA hS (vp_in_nI (show i + 2 < L by omega) (by omega)) d_law_565 ?_
  refine lv_topi (fun y_8 ey_8 => ?_)
  obtain rfl : y_8 = xs (i + 2) := ey_8.trans (congrArg xs (nI_clamp (by omega)))
  refine cs_calll (va_runV (As := [.int (xs (i + 1)), .int (xs (i + 2))]) (rest := []) ⟨hx, hb, hml, hown, hts⟩ (c_M_damp l dC dI mx tw sd (nI n) ro pl vl f pa pr cL g p9 (xs (i + 1)) (xs (i + 2)) hJ.1 _) (cwV 2 hts g_law_M_damp rfl rfl rfl (by decide +kernel) ⟨Nat.le_of_ble_eq_true rfl, Nat.le_of_ble_eq_true rfl⟩) (ct_preV ct_G0ok trivial hK hP hD hS hA [1, 5, 6] rfl (by decide) [0] rfl 1 4 rfl rfl rfl) rfl rfl hl.1 rfl (lv_room (Nat.le_of_ble_eq_true rfl)) d_law_566 ⟨show _ ≤ 601024 by omega, show _ ≤ 7293000 by omega⟩) hP hD hS hA [1, 5, 6] rfl (by decide) (fun _ => rfl) (fun v2 w2 H locs hv2 hP hD hS => ?_)
  obtain ⟨t2, f2, g2, p2⟩ := w2
  obtain ⟨hf2, ht2, hv2⟩ := hv2
  have hf2 : f2 ≤ 20 := hf2
  obtain ⟨hP, hD⟩ : va_P (dC, dI) cl9 (lw_ws ot o1 mx t2 sd n ro pl vl f2 pa pr cL cI cT cc P9 V9 g2 p2 fx tb ad tt tc T u1) H ∧ va_D (fun q : Nat => s.heap.size ≤ q) (lw_ws ot o1 mx t2 sd n ro pl vl f2 pa pr cL cI cT cc P9 V9 g2 p2 fx tb ad tt tc T u1) := ct_eqP (lwsD ot o1 mx tw t2 sd n ro pl vl f f2 pa pr cL cI cT cc P9 V9 g g2 p9 p2 fx tb ad tt tc T u1) hP hD
  have hJ2 : lw_J n f2 cc P9 V9 tc T := ⟨hf2, hJ.2⟩
  refine lv_lstore (lv' := [(6, .long v2), (5, .int r1), (0, .ref b), (1, .ref fx), (2, .ref mx), (3, .ref ot), (4, .int (nI i))]) hx hb d_law_569 hl (by decide) rfl (fun ls hl => ?_)
  refine lv_aload_n hx hb d_law_571 rfl (lv_at hl 4 rfl) ?_
  refine cs_calli (va_runV (As := []) (rest := []) ⟨hx, hb, hml, hown, hts⟩ (c_M_thrown l dC dI mx t2 sd (nI n) ro pl vl f2 pa pr _) (cwV 0 hts g_law_M_thrown rfl rfl rfl (by decide +kernel) ⟨Nat.le_of_ble_eq_true rfl, Nat.le_of_ble_eq_true rfl⟩) (ct_preV ct_G0ok trivial hK hP hD hS hA [1] rfl (by decide) [] rfl 1 4 rfl rfl rfl) rfl rfl hl.1 rfl (lv_room (Nat.le_of_ble_eq_true rfl)) d_law_572 ⟨show _ ≤ 601024 by omega, show _ ≤ 7293000 by omega⟩) hP hD hS hA [1] rfl (by decide) (fun _ => rfl) (fun r3 w3 H locs hr3 hP hD hS => ?_)
  obtain ⟨hP, hD⟩ : va_P (dC, dI) cl9 (lw_ws ot o1 mx t2 sd n ro pl vl f2 pa pr cL cI cT cc P9 V9 g2 p2 fx tb ad tt tc T u1) H ∧ va_D (fun q : Nat => s.heap.size ≤ q) (lw_ws ot o1 mx t2 sd n ro pl vl f2 pa pr cL cI cT cc P9 V9 g2 p2 fx tb ad tt tc T u1) := ct_eqP (lwsG ot o1 mx t2 t2 sd n ro pl vl f2 pa pr cL cI cT cc P9 V9 g2 p2 fx tb ad tt tc T u1) hP hD
  refine lv_iload hx hb d_law_575 (lv_at hl 1 rfl) ?_
  have h3 : r3 = r1 := by rw [show r3 = t2 from hr3, show t2 = _ from ht2]; rcases hr1 with ⟨e1, h1⟩ | ⟨e1, h1⟩; exact (th_dp0 h1.1.1 h1.1.2).trans e1.symm; exact (th_dp1 h1).trans e1.symm
  refine lv_icmp_eq (tgt := 582) hx hb d_law_577 (by decide) (fun hq => ?_) (fun hq => ?_)
  · refine lv_iload hx hb d_law_582 (lv_at hl 1 rfl) ?_
    refine lv_if_ne (tgt := 598) hx hb d_law_584 (by decide) (fun hz => ?_) (fun hz => ?_)
    · refine lv_goto (tgt := 995) hx hb d_law_598 (by decide) ?_
      refine W.widen (k := cells + 4) (n := slots + 24) (by omega) (by omega) ?_
      exact K o1 t2 n f2 cc P9 V9 g2 p2 tc T u1 hJ2 _ _ _ hP hD hS (lv_sub hl [2, 3, 4, 5, 6] rfl)
    · refine lv_aload_n hx hb d_law_587 rfl (lv_at hl 5 rfl) ?_
      refine lv_iconst (v := 0) hx hb d_law_588 (by decide) ?_
      refine ct_lald hx hb hK hP 0 0 rfl rfl 0 rfl (by omega) (by omega) d_law_589 ?_
      refine lv_lload hx hb d_law_590 (lv_at hl 0 rfl) ?_
      refine ct_jeq (tgt := 598) hx hb d_law_592 d_law_593 (by decide) (fun hy => ?_) (fun hy => ?_)
      · refine lv_goto (tgt := 995) hx hb d_law_598 (by decide) ?_
        refine W.widen (k := cells + 4) (n := slots + 24) (by omega) (by omega) ?_
        exact K o1 t2 n f2 cc P9 V9 g2 p2 tc T u1 hJ2 _ _ _ hP hD hS (lv_sub hl [2, 3, 4, 5, 6] rfl)
      · refine absurd ?_ hy
        rcases hr1 with ⟨e1, h1⟩ | ⟨e1, h1⟩
        · exact (show o1 0 = _ from h1.2).trans ((hE _ _ _ _ h1.1).trans (show v2 = _ from hv2).symm)
        · exact absurd (e1.symm.trans hz) (by decide)
  · exact absurd h3 hq
set_option maxHeartbeats 4000000 in
set_option maxRecDepth 100000 in
/-- the law's case of logarithm -/
theorem ca_logarithm {p : Program} {l : Launch} {e : Env} {s : State} {m : MethodId} {below : List Frame} {meth : Method} {c : Code} {dC : Nat → ClassId} {dI : Nat → Nat → Nat} {b L : Nat} {xs : Nat → Int32} {ot mx : Nat} {sd : Int64} {ro pl vl pa pr : Nat} {cL cI cT : ClassId} {fx tb : Nat} {ad tt : Nat → Nat} {s1 s2 s3 s4 tl th9 ta : Nat} {cells slots : Nat} (hL : L ≤ 2049) (C0 : lw_At p s m meth c b L xs) (hst : l.stackTraces = false) (hG : lg_G s1 s2 s3 s4 tl th9 ta (fun q : Nat => s.heap.size ≤ q) s s.heap) (hK : va_K (dC, dI) cl9 [(cL, .long), (cT, .object "HouseFunctions$Table"), (cI, .int)] s) (hE : EQ_lg) {i : Nat} (hi : i + 3 < L) (hc9 : cells + 4 ≤ 601024) (hs9 : slots + 24 ≤ 7293000)
    (K : ∀ (o : Nat → Int64) (tw : Int32) (n : Nat) (f : Nat) (cc : Nat → Nat) (P9 : Nat → Int32) (V9 : Nat → Int32) (g : Nat → Int64) (p9 : Nat → Int64) (tc : Nat) (T : fq_T) (u : rk_U), lw_J n f cc P9 V9 tc T → ∀ (H : Heap) (locs : List Loc) (ls : Array Slot), va_P (dC, dI) cl9 (lw_ws ot o mx tw sd n ro pl vl f pa pr cL cI cT cc P9 V9 g p9 fx tb ad tt tc T u) H → va_D (fun q : Nat => s.heap.size ≤ q) (lw_ws ot o mx tw sd n ro pl vl f pa pr cL cI cT cc P9 V9 g p9 fx tb ad tt tc T u) → va_S (fun q : Nat => s.heap.size ≤ q) s.heap H locs → lv_has ls 8 [(0, .ref b), (1, .ref fx), (2, .ref mx), (3, .ref ot), (4, .int (nI i))] → W p l e room_1 s m #[Value.ref b] below meth c H locs (cells + 4) (slots + 24) (lw_Z below #[Value.ref b] s) (F0 m 995 ls [])) :
    ∀ (o : Nat → Int64) (tw : Int32) (n : Nat) (f : Nat) (cc : Nat → Nat) (P9 : Nat → Int32) (V9 : Nat → Int32) (g : Nat → Int64) (p9 : Nat → Int64) (tc : Nat) (T : fq_T) (u : rk_U), lw_J n f cc P9 V9 tc T → ∀ (H : Heap) (locs : List Loc) (ls : Array Slot), va_P (dC, dI) cl9 (lw_ws ot o mx tw sd n ro pl vl f pa pr cL cI cT cc P9 V9 g p9 fx tb ad tt tc T u) H → va_D (fun q : Nat => s.heap.size ≤ q) (lw_ws ot o mx tw sd n ro pl vl f pa pr cL cI cT cc P9 V9 g p9 fx tb ad tt tc T u) → va_S (fun q : Nat => s.heap.size ≤ q) s.heap H locs → lv_has ls 8 [(0, .ref b), (1, .ref fx), (2, .ref mx), (3, .ref ot), (4, .int (nI i))] → W p l e room_1 s m #[Value.ref b] below meth c H locs cells slots (lw_Z below #[Value.ref b] s) (F0 m 171 ls []) := by
  obtain ⟨hx, hb, hr, hml, hown, hts, hX, hbl, hlocks, hgv⟩ := C0
  have hA : ∀ q : Nat, s.heap.size ≤ q → (fun q : Nat => s.heap.size ≤ q) q := fun _ h => h
  have hbA : ¬ (fun q : Nat => s.heap.size ≤ q) b := Nat.not_le.mpr hbl
  have ha : ∀ w ∈ al_L, w.before #[Value.ref b] s = true := fun w h => hts w (am_L w h)
  intro o tw n f cc P9 V9 g p9 tc T u hJ H locs ls hP hD hS hl
  refine lv_aload_n hx hb d_law_171 rfl (lv_at hl 1 rfl) ?_
  refine lv_aload_n hx hb d_law_172 rfl (lv_at hl 0 rfl) ?_
  refine lv_iload hx hb d_law_173 (lv_at hl 4 rfl) ?_
  refine lv_iconst (v := 1) hx hb d_law_175 (by decide) ?_
  refine lv_iadd hx hb d_law_176 ?_
  refine lv_topi (fun x_1 ex_1 => ?_)
  obtain rfl : x_1 = nI (i + 1) := ex_1.trans (nI_add i 1)
  refine va_sld hx hb hX hbl hbA hS (vp_in_nI (show i + 1 < L by omega) (by omega)) d_law_177 ?_
  refine lv_topi (fun y_2 ey_2 => ?_)
  obtain rfl : y_2 = xs (i + 1) := ey_2.trans (congrArg xs (nI_clamp (by omega)))
  refine lv_i2l hx hb d_law_178 rfl ?_
  refine lv_bipush (v := 32) hx hb d_law_179 (by decide) ?_
  refine lv_lshl (v := (pu_sl (((xs (i + 1)) : Int32).toInt64) 32)) hx hb d_law_181 rfl ?_
  refine lv_aload_n hx hb d_law_182 rfl (lv_at hl 0 rfl) ?_
  refine lv_iload hx hb d_law_183 (lv_at hl 4 rfl) ?_
  refine lv_iconst (v := 2) hx hb d_law_185 (by decide) ?_
  refine lv_iadd hx hb d_law_186 ?_
  refine lv_topi (fun x_3 ex_3 => ?_)
  obtain rfl : x_3 = nI (i + 2) := ex_3.trans (nI_add i 2)
  refine va_sld hx hb hX hbl hbA hS (vp_in_nI (show i + 2 < L by omega) (by omega)) d_law_187 ?_
  refine lv_topi (fun y_4 ey_4 => ?_)
  obtain rfl : y_4 = xs (i + 2) := ey_4.trans (congrArg xs (nI_clamp (by omega)))
  refine lv_i2l hx hb d_law_188 rfl ?_
  refine lv_ldc2 (v := 4294967295) hx hb hown (ha _ wm_L_61) d_law_189 ?_
  refine lv_land hx hb d_law_192 ?_
  refine lv_lor hx hb d_law_193 ?_
  refine lv_aload_n hx hb d_law_194 rfl (lv_at hl 3 rfl) ?_
  refine cs_calli (vx_runSW (As := [.ref fx, .long ((pu_sl (((xs (i + 1)) : Int32).toInt64) 32) ||| ((((xs (i + 2)) : Int32).toInt64) &&& 4294967295)), .ref ot]) (rest := []) ⟨hx, hb, hml, hown, hts⟩ (c_L_logarithm l hst dC dI ot o fx sd tb tc ad cL u s1 s2 s3 s4 tl th9 ta ((pu_sl (((xs (i + 1)) : Int32).toInt64) 32) ||| ((((xs (i + 2)) : Int32).toInt64) &&& 4294967295)) _) (vx_cwSW 3 hts g_law_L_logarithm rfl rfl rfl (by decide +kernel) ⟨Nat.le_of_ble_eq_true rfl, Nat.le_of_ble_eq_true rfl⟩) (ct_pre (lg_Gok s1 s2 s3 s4 tl th9 ta) hG hK hP hD hS hA [0, 7, 27, 28, 29, 30, 31, 32, 33, 34, 35, 36, 37, 38, 39, 40, 41, 42] rfl (by decide) [0] rfl) rfl rfl hl.1 rfl (lv_room (Nat.le_of_ble_eq_true rfl)) d_law_195 ⟨show _ ≤ 601024 by omega, show _ ≤ 7293000 by omega⟩) hP hD hS hA [0, 7, 27, 28, 29, 30, 31, 32, 33, 34, 35, 36, 37, 38, 39, 40, 41, 42] rfl (by decide) (fun _ => rfl) (fun r1 w1 H locs hr1 hP hD hS => ?_)
  obtain ⟨o1, u1⟩ := w1
  obtain ⟨hP, hD⟩ : va_P (dC, dI) cl9 (lw_ws ot o1 mx tw sd n ro pl vl f pa pr cL cI cT cc P9 V9 g p9 fx tb ad tt tc T u1) H ∧ va_D (fun q : Nat => s.heap.size ≤ q) (lw_ws ot o1 mx tw sd n ro pl vl f pa pr cL cI cT cc P9 V9 g p9 fx tb ad tt tc T u1) := ct_eqP (lwsA ot o o1 mx tw sd n ro pl vl f pa pr cL cI cT cc P9 V9 g p9 fx tb ad tt tc T u u1) hP hD
  refine lv_istore (lv' := [(5, .int r1), (0, .ref b), (1, .ref fx), (2, .ref mx), (3, .ref ot), (4, .int (nI i))]) hx hb d_law_198 hl (by decide) rfl (fun ls hl => ?_)
  refine lv_aload_n hx hb d_law_200 rfl (lv_at hl 3 rfl) ?_
  refine lv_aload_n hx hb d_law_201 rfl (lv_at hl 1 rfl) ?_
  refine lv_iload hx hb d_law_202 (lv_at hl 5 rfl) ?_
  refine lv_iconst (v := 1) hx hb d_law_204 (by decide) ?_
  refine lv_iadd hx hb d_law_205 ?_
  refine lv_topi (fun x_5 ex_5 => ?_)
  obtain rfl : x_5 = nI (i + 1) := ex_5.trans (nI_add i 1)
  refine va_sld hx hb hX hbl hbA hS (vp_in_nI (show i + 1 < L by omega) (by omega)) d_law_206 ?_
  refine lv_topi (fun y_6 ey_6 => ?_)
  obtain rfl : y_6 = xs (i + 1) := ey_6.trans (congrArg xs (nI_clamp (by omega)))
  refine lv_i2l hx hb d_law_207 rfl ?_
  refine lv_bipush (v := 32) hx hb d_law_208 (by decide) ?_
  refine lv_lshl (v := (pu_sl (((xs (i + 1)) : Int32).toInt64) 32)) hx hb d_law_210 rfl ?_
  refine lv_aload_n hx hb d_law_211 rfl (lv_at hl 1 rfl) ?_
  refine lv_iload hx hb d_law_212 (lv_at hl 5 rfl) ?_
  refine lv_iconst (v := 2) hx hb d_law_214 (by decide) ?_
  refine lv_iadd hx hb d_law_215 ?_
  refine lv_topi (fun x_7 ex_7 => ?_)
  obtain rfl : x_7 = nI (i + 2) := ex_7.trans (nI_add i 2)
  refine va_sld hx hb hX hbl hbA hS (vp_in_nI (show i + 2 < L by omega) (by omega)) d_law_216 ?_
  refine lv_topi (fun y_8 ey_8 => ?_)
  obtain rfl : y_8 = xs (i + 2) := ey_8.trans (congrArg xs (nI_clamp (by omega)))
  refine lv_i2l hx hb d_law_217 rfl ?_
  refine lv_ldc2 (v := 4294967295) hx hb hown (ha _ wm_L_61) d_law_218 ?_
  refine lv_land hx hb d_law_221 ?_
  refine lv_lor hx hb d_law_222 ?_
  refine cs_calll (va_runV (As := [.long ((pu_sl (((xs (i + 1)) : Int32).toInt64) 32) ||| ((((xs (i + 2)) : Int32).toInt64) &&& 4294967295))]) (rest := []) ⟨hx, hb, hml, hown, hts⟩ (c_M_logarithm l dC dI mx tw sd (nI n) ro pl vl f pa pr cL g p9 ((pu_sl (((xs (i + 1)) : Int32).toInt64) 32) ||| ((((xs (i + 2)) : Int32).toInt64) &&& 4294967295)) hJ.1 _) (cwV 1 hts g_law_M_logarithm rfl rfl rfl (by decide +kernel) ⟨Nat.le_of_ble_eq_true rfl, Nat.le_of_ble_eq_true rfl⟩) (ct_preV ct_G0ok trivial hK hP hD hS hA [1, 5, 6] rfl (by decide) [0] rfl 1 4 rfl rfl rfl) rfl rfl hl.1 rfl (lv_room (Nat.le_of_ble_eq_true rfl)) d_law_223 ⟨show _ ≤ 601024 by omega, show _ ≤ 7293000 by omega⟩) hP hD hS hA [1, 5, 6] rfl (by decide) (fun _ => rfl) (fun v2 w2 H locs hv2 hP hD hS => ?_)
  obtain ⟨t2, f2, g2, p2⟩ := w2
  obtain ⟨hf2, ht2, hv2⟩ := hv2
  have hf2 : f2 ≤ 20 := hf2
  obtain ⟨hP, hD⟩ : va_P (dC, dI) cl9 (lw_ws ot o1 mx t2 sd n ro pl vl f2 pa pr cL cI cT cc P9 V9 g2 p2 fx tb ad tt tc T u1) H ∧ va_D (fun q : Nat => s.heap.size ≤ q) (lw_ws ot o1 mx t2 sd n ro pl vl f2 pa pr cL cI cT cc P9 V9 g2 p2 fx tb ad tt tc T u1) := ct_eqP (lwsD ot o1 mx tw t2 sd n ro pl vl f f2 pa pr cL cI cT cc P9 V9 g g2 p9 p2 fx tb ad tt tc T u1) hP hD
  have hJ2 : lw_J n f2 cc P9 V9 tc T := ⟨hf2, hJ.2⟩
  refine lv_lstore (lv' := [(6, .long v2), (5, .int r1), (0, .ref b), (1, .ref fx), (2, .ref mx), (3, .ref ot), (4, .int (nI i))]) hx hb d_law_226 hl (by decide) rfl (fun ls hl => ?_)
  refine lv_aload_n hx hb d_law_228 rfl (lv_at hl 4 rfl) ?_
  refine cs_calli (va_runV (As := []) (rest := []) ⟨hx, hb, hml, hown, hts⟩ (c_M_thrown l dC dI mx t2 sd (nI n) ro pl vl f2 pa pr _) (cwV 0 hts g_law_M_thrown rfl rfl rfl (by decide +kernel) ⟨Nat.le_of_ble_eq_true rfl, Nat.le_of_ble_eq_true rfl⟩) (ct_preV ct_G0ok trivial hK hP hD hS hA [1] rfl (by decide) [] rfl 1 4 rfl rfl rfl) rfl rfl hl.1 rfl (lv_room (Nat.le_of_ble_eq_true rfl)) d_law_229 ⟨show _ ≤ 601024 by omega, show _ ≤ 7293000 by omega⟩) hP hD hS hA [1] rfl (by decide) (fun _ => rfl) (fun r3 w3 H locs hr3 hP hD hS => ?_)
  obtain ⟨hP, hD⟩ : va_P (dC, dI) cl9 (lw_ws ot o1 mx t2 sd n ro pl vl f2 pa pr cL cI cT cc P9 V9 g2 p2 fx tb ad tt tc T u1) H ∧ va_D (fun q : Nat => s.heap.size ≤ q) (lw_ws ot o1 mx t2 sd n ro pl vl f2 pa pr cL cI cT cc P9 V9 g2 p2 fx tb ad tt tc T u1) := ct_eqP (lwsG ot o1 mx t2 t2 sd n ro pl vl f2 pa pr cL cI cT cc P9 V9 g2 p2 fx tb ad tt tc T u1) hP hD
  refine lv_iload hx hb d_law_232 (lv_at hl 1 rfl) ?_
  have h3 : r3 = r1 := by rw [show r3 = t2 from hr3, show t2 = _ from ht2]; rcases hr1 with ⟨e1, h1⟩ | ⟨e1, h1⟩; exact (h1.elim (fun q => th_lg00 q.1) (fun q => th_lg0 q.1.2)).trans e1.symm; exact (th_lg1 h1.2).trans e1.symm
  refine lv_icmp_eq (tgt := 239) hx hb d_law_234 (by decide) (fun hq => ?_) (fun hq => ?_)
  · refine lv_iload hx hb d_law_239 (lv_at hl 1 rfl) ?_
    refine lv_if_ne (tgt := 255) hx hb d_law_241 (by decide) (fun hz => ?_) (fun hz => ?_)
    · refine lv_goto (tgt := 995) hx hb d_law_255 (by decide) ?_
      refine W.widen (k := cells + 4) (n := slots + 24) (by omega) (by omega) ?_
      exact K o1 t2 n f2 cc P9 V9 g2 p2 tc T u1 hJ2 _ _ _ hP hD hS (lv_sub hl [2, 3, 4, 5, 6] rfl)
    · refine lv_aload_n hx hb d_law_244 rfl (lv_at hl 5 rfl) ?_
      refine lv_iconst (v := 0) hx hb d_law_245 (by decide) ?_
      refine ct_lald hx hb hK hP 0 0 rfl rfl 0 rfl (by omega) (by omega) d_law_246 ?_
      refine lv_lload hx hb d_law_247 (lv_at hl 0 rfl) ?_
      refine ct_jeq (tgt := 255) hx hb d_law_249 d_law_250 (by decide) (fun hy => ?_) (fun hy => ?_)
      · refine lv_goto (tgt := 995) hx hb d_law_255 (by decide) ?_
        refine W.widen (k := cells + 4) (n := slots + 24) (by omega) (by omega) ?_
        exact K o1 t2 n f2 cc P9 V9 g2 p2 tc T u1 hJ2 _ _ _ hP hD hS (lv_sub hl [2, 3, 4, 5, 6] rfl)
      · refine absurd ?_ hy
        rcases hr1 with ⟨e1, h1⟩ | ⟨e1, h1⟩
        · rcases h1 with h1 | h1; exact (show o1 0 = _ from h1.2.1).trans ((vl_lg0 h1.1).symm.trans (show v2 = _ from hv2).symm); exact (show o1 0 = _ from h1.2).trans ((hE _ _ _ h1.1).trans (show v2 = _ from hv2).symm)
        · exact absurd (e1.symm.trans hz) (by decide)
  · exact absurd h3 hq
set_option maxHeartbeats 4000000 in
set_option maxRecDepth 100000 in
/-- the law's case of angle -/
theorem ca_angle {p : Program} {l : Launch} {e : Env} {s : State} {m : MethodId} {below : List Frame} {meth : Method} {c : Code} {dC : Nat → ClassId} {dI : Nat → Nat → Nat} {b L : Nat} {xs : Nat → Int32} {ot mx : Nat} {sd : Int64} {ro pl vl pa pr : Nat} {cL cI cT : ClassId} {fx tb : Nat} {ad tt : Nat → Nat} {s1 s2 s3 s4 tl th9 ta : Nat} {cells slots : Nat} (hL : L ≤ 2049) (C0 : lw_At p s m meth c b L xs) (hst : l.stackTraces = false) (hG : lg_G s1 s2 s3 s4 tl th9 ta (fun q : Nat => s.heap.size ≤ q) s s.heap) (hK : va_K (dC, dI) cl9 [(cL, .long), (cT, .object "HouseFunctions$Table"), (cI, .int)] s) (hE : EQ_an) {i : Nat} (hi : i + 3 < L) (hc9 : cells + 4 ≤ 601024) (hs9 : slots + 24 ≤ 7293000)
    (K : ∀ (o : Nat → Int64) (tw : Int32) (n : Nat) (f : Nat) (cc : Nat → Nat) (P9 : Nat → Int32) (V9 : Nat → Int32) (g : Nat → Int64) (p9 : Nat → Int64) (tc : Nat) (T : fq_T) (u : rk_U), lw_J n f cc P9 V9 tc T → ∀ (H : Heap) (locs : List Loc) (ls : Array Slot), va_P (dC, dI) cl9 (lw_ws ot o mx tw sd n ro pl vl f pa pr cL cI cT cc P9 V9 g p9 fx tb ad tt tc T u) H → va_D (fun q : Nat => s.heap.size ≤ q) (lw_ws ot o mx tw sd n ro pl vl f pa pr cL cI cT cc P9 V9 g p9 fx tb ad tt tc T u) → va_S (fun q : Nat => s.heap.size ≤ q) s.heap H locs → lv_has ls 8 [(0, .ref b), (1, .ref fx), (2, .ref mx), (3, .ref ot), (4, .int (nI i))] → W p l e room_1 s m #[Value.ref b] below meth c H locs (cells + 4) (slots + 24) (lw_Z below #[Value.ref b] s) (F0 m 995 ls [])) :
    ∀ (o : Nat → Int64) (tw : Int32) (n : Nat) (f : Nat) (cc : Nat → Nat) (P9 : Nat → Int32) (V9 : Nat → Int32) (g : Nat → Int64) (p9 : Nat → Int64) (tc : Nat) (T : fq_T) (u : rk_U), lw_J n f cc P9 V9 tc T → ∀ (H : Heap) (locs : List Loc) (ls : Array Slot), va_P (dC, dI) cl9 (lw_ws ot o mx tw sd n ro pl vl f pa pr cL cI cT cc P9 V9 g p9 fx tb ad tt tc T u) H → va_D (fun q : Nat => s.heap.size ≤ q) (lw_ws ot o mx tw sd n ro pl vl f pa pr cL cI cT cc P9 V9 g p9 fx tb ad tt tc T u) → va_S (fun q : Nat => s.heap.size ≤ q) s.heap H locs → lv_has ls 8 [(0, .ref b), (1, .ref fx), (2, .ref mx), (3, .ref ot), (4, .int (nI i))] → W p l e room_1 s m #[Value.ref b] below meth c H locs cells slots (lw_Z below #[Value.ref b] s) (F0 m 368 ls []) := by
  obtain ⟨hx, hb, hr, hml, hown, hts, hX, hbl, hlocks, hgv⟩ := C0
  have hA : ∀ q : Nat, s.heap.size ≤ q → (fun q : Nat => s.heap.size ≤ q) q := fun _ h => h
  have hbA : ¬ (fun q : Nat => s.heap.size ≤ q) b := Nat.not_le.mpr hbl
  have ha : ∀ w ∈ al_L, w.before #[Value.ref b] s = true := fun w h => hts w (am_L w h)
  intro o tw n f cc P9 V9 g p9 tc T u hJ H locs ls hP hD hS hl
  refine lv_aload_n hx hb d_law_368 rfl (lv_at hl 1 rfl) ?_
  refine lv_aload_n hx hb d_law_369 rfl (lv_at hl 0 rfl) ?_
  refine lv_iload hx hb d_law_370 (lv_at hl 4 rfl) ?_
  refine lv_iconst (v := 1) hx hb d_law_372 (by decide) ?_
  refine lv_iadd hx hb d_law_373 ?_
  refine lv_topi (fun x_1 ex_1 => ?_)
  obtain rfl : x_1 = nI (i + 1) := ex_1.trans (nI_add i 1)
  refine va_sld hx hb hX hbl hbA hS (vp_in_nI (show i + 1 < L by omega) (by omega)) d_law_374 ?_
  refine lv_topi (fun y_2 ey_2 => ?_)
  obtain rfl : y_2 = xs (i + 1) := ey_2.trans (congrArg xs (nI_clamp (by omega)))
  refine lv_aload_n hx hb d_law_375 rfl (lv_at hl 0 rfl) ?_
  refine lv_iload hx hb d_law_376 (lv_at hl 4 rfl) ?_
  refine lv_iconst (v := 2) hx hb d_law_378 (by decide) ?_
  refine lv_iadd hx hb d_law_379 ?_
  refine lv_topi (fun x_3 ex_3 => ?_)
  obtain rfl : x_3 = nI (i + 2) := ex_3.trans (nI_add i 2)
  refine va_sld hx hb hX hbl hbA hS (vp_in_nI (show i + 2 < L by omega) (by omega)) d_law_380 ?_
  refine lv_topi (fun y_4 ey_4 => ?_)
  obtain rfl : y_4 = xs (i + 2) := ey_4.trans (congrArg xs (nI_clamp (by omega)))
  refine lv_aload_n hx hb d_law_381 rfl (lv_at hl 3 rfl) ?_
  refine cs_calli (vx_runSW (As := [.ref fx, .int (xs (i + 1)), .int (xs (i + 2)), .ref ot]) (rest := []) ⟨hx, hb, hml, hown, hts⟩ (c_L_angle l hst dC dI ot o fx sd tb tc ad cL u s1 s2 s3 s4 tl th9 ta (xs (i + 1)) (xs (i + 2)) _) (vx_cwSW 4 hts g_law_L_angle rfl rfl rfl (by decide +kernel) ⟨Nat.le_of_ble_eq_true rfl, Nat.le_of_ble_eq_true rfl⟩) (ct_pre (lg_Gok s1 s2 s3 s4 tl th9 ta) hG hK hP hD hS hA [0, 7, 27, 28, 29, 30, 31, 32, 33, 34, 35, 36, 37, 38, 39, 40, 41, 42] rfl (by decide) [0] rfl) rfl rfl hl.1 rfl (lv_room (Nat.le_of_ble_eq_true rfl)) d_law_382 ⟨show _ ≤ 601024 by omega, show _ ≤ 7293000 by omega⟩) hP hD hS hA [0, 7, 27, 28, 29, 30, 31, 32, 33, 34, 35, 36, 37, 38, 39, 40, 41, 42] rfl (by decide) (fun _ => rfl) (fun r1 w1 H locs hr1 hP hD hS => ?_)
  obtain ⟨o1, u1⟩ := w1
  obtain ⟨hP, hD⟩ : va_P (dC, dI) cl9 (lw_ws ot o1 mx tw sd n ro pl vl f pa pr cL cI cT cc P9 V9 g p9 fx tb ad tt tc T u1) H ∧ va_D (fun q : Nat => s.heap.size ≤ q) (lw_ws ot o1 mx tw sd n ro pl vl f pa pr cL cI cT cc P9 V9 g p9 fx tb ad tt tc T u1) := ct_eqP (lwsA ot o o1 mx tw sd n ro pl vl f pa pr cL cI cT cc P9 V9 g p9 fx tb ad tt tc T u u1) hP hD
  refine lv_istore (lv' := [(5, .int r1), (0, .ref b), (1, .ref fx), (2, .ref mx), (3, .ref ot), (4, .int (nI i))]) hx hb d_law_385 hl (by decide) rfl (fun ls hl => ?_)
  refine lv_aload_n hx hb d_law_387 rfl (lv_at hl 3 rfl) ?_
  refine lv_aload_n hx hb d_law_388 rfl (lv_at hl 1 rfl) ?_
  refine lv_iload hx hb d_law_389 (lv_at hl 5 rfl) ?_
  refine lv_iconst (v := 1) hx hb d_law_391 (by decide) ?_
  refine lv_iadd hx hb d_law_392 ?_
  refine lv_topi (fun x_5 ex_5 => ?_)
  obtain rfl : x_5 = nI (i + 1) := ex_5.trans (nI_add i 1)
  refine va_sld hx hb hX hbl hbA hS (vp_in_nI (show i + 1 < L by omega) (by omega)) d_law_393 ?_
  refine lv_topi (fun y_6 ey_6 => ?_)
  obtain rfl : y_6 = xs (i + 1) := ey_6.trans (congrArg xs (nI_clamp (by omega)))
  refine lv_aload_n hx hb d_law_394 rfl (lv_at hl 1 rfl) ?_
  refine lv_iload hx hb d_law_395 (lv_at hl 5 rfl) ?_
  refine lv_iconst (v := 2) hx hb d_law_397 (by decide) ?_
  refine lv_iadd hx hb d_law_398 ?_
  refine lv_topi (fun x_7 ex_7 => ?_)
  obtain rfl : x_7 = nI (i + 2) := ex_7.trans (nI_add i 2)
  refine va_sld hx hb hX hbl hbA hS (vp_in_nI (show i + 2 < L by omega) (by omega)) d_law_399 ?_
  refine lv_topi (fun y_8 ey_8 => ?_)
  obtain rfl : y_8 = xs (i + 2) := ey_8.trans (congrArg xs (nI_clamp (by omega)))
  refine cs_calll (va_runV (As := [.int (xs (i + 1)), .int (xs (i + 2))]) (rest := []) ⟨hx, hb, hml, hown, hts⟩ (c_M_angle l dC dI mx tw sd (nI n) ro pl vl f pa pr cL g p9 (xs (i + 1)) (xs (i + 2)) hJ.1 _) (cwV 2 hts g_law_M_angle rfl rfl rfl (by decide +kernel) ⟨Nat.le_of_ble_eq_true rfl, Nat.le_of_ble_eq_true rfl⟩) (ct_preV ct_G0ok trivial hK hP hD hS hA [1, 5, 6] rfl (by decide) [0] rfl 1 4 rfl rfl rfl) rfl rfl hl.1 rfl (lv_room (Nat.le_of_ble_eq_true rfl)) d_law_400 ⟨show _ ≤ 601024 by omega, show _ ≤ 7293000 by omega⟩) hP hD hS hA [1, 5, 6] rfl (by decide) (fun _ => rfl) (fun v2 w2 H locs hv2 hP hD hS => ?_)
  obtain ⟨t2, f2, g2, p2⟩ := w2
  obtain ⟨hf2, ht2, hv2⟩ := hv2
  have hf2 : f2 ≤ 20 := hf2
  obtain ⟨hP, hD⟩ : va_P (dC, dI) cl9 (lw_ws ot o1 mx t2 sd n ro pl vl f2 pa pr cL cI cT cc P9 V9 g2 p2 fx tb ad tt tc T u1) H ∧ va_D (fun q : Nat => s.heap.size ≤ q) (lw_ws ot o1 mx t2 sd n ro pl vl f2 pa pr cL cI cT cc P9 V9 g2 p2 fx tb ad tt tc T u1) := ct_eqP (lwsD ot o1 mx tw t2 sd n ro pl vl f f2 pa pr cL cI cT cc P9 V9 g g2 p9 p2 fx tb ad tt tc T u1) hP hD
  have hJ2 : lw_J n f2 cc P9 V9 tc T := ⟨hf2, hJ.2⟩
  refine lv_lstore (lv' := [(6, .long v2), (5, .int r1), (0, .ref b), (1, .ref fx), (2, .ref mx), (3, .ref ot), (4, .int (nI i))]) hx hb d_law_403 hl (by decide) rfl (fun ls hl => ?_)
  refine lv_aload_n hx hb d_law_405 rfl (lv_at hl 4 rfl) ?_
  refine cs_calli (va_runV (As := []) (rest := []) ⟨hx, hb, hml, hown, hts⟩ (c_M_thrown l dC dI mx t2 sd (nI n) ro pl vl f2 pa pr _) (cwV 0 hts g_law_M_thrown rfl rfl rfl (by decide +kernel) ⟨Nat.le_of_ble_eq_true rfl, Nat.le_of_ble_eq_true rfl⟩) (ct_preV ct_G0ok trivial hK hP hD hS hA [1] rfl (by decide) [] rfl 1 4 rfl rfl rfl) rfl rfl hl.1 rfl (lv_room (Nat.le_of_ble_eq_true rfl)) d_law_406 ⟨show _ ≤ 601024 by omega, show _ ≤ 7293000 by omega⟩) hP hD hS hA [1] rfl (by decide) (fun _ => rfl) (fun r3 w3 H locs hr3 hP hD hS => ?_)
  obtain ⟨hP, hD⟩ : va_P (dC, dI) cl9 (lw_ws ot o1 mx t2 sd n ro pl vl f2 pa pr cL cI cT cc P9 V9 g2 p2 fx tb ad tt tc T u1) H ∧ va_D (fun q : Nat => s.heap.size ≤ q) (lw_ws ot o1 mx t2 sd n ro pl vl f2 pa pr cL cI cT cc P9 V9 g2 p2 fx tb ad tt tc T u1) := ct_eqP (lwsG ot o1 mx t2 t2 sd n ro pl vl f2 pa pr cL cI cT cc P9 V9 g2 p2 fx tb ad tt tc T u1) hP hD
  refine lv_iload hx hb d_law_409 (lv_at hl 1 rfl) ?_
  have h3 : r3 = r1 := by rw [show r3 = t2 from hr3, show t2 = _ from ht2]; rcases hr1 with ⟨e1, h1⟩ | ⟨e1, h1⟩; exact (th_an0 h1.1.1 h1.1.2).trans e1.symm; exact (th_an1 h1).trans e1.symm
  refine lv_icmp_eq (tgt := 416) hx hb d_law_411 (by decide) (fun hq => ?_) (fun hq => ?_)
  · refine lv_iload hx hb d_law_416 (lv_at hl 1 rfl) ?_
    refine lv_if_ne (tgt := 432) hx hb d_law_418 (by decide) (fun hz => ?_) (fun hz => ?_)
    · refine lv_goto (tgt := 995) hx hb d_law_432 (by decide) ?_
      refine W.widen (k := cells + 4) (n := slots + 24) (by omega) (by omega) ?_
      exact K o1 t2 n f2 cc P9 V9 g2 p2 tc T u1 hJ2 _ _ _ hP hD hS (lv_sub hl [2, 3, 4, 5, 6] rfl)
    · refine lv_aload_n hx hb d_law_421 rfl (lv_at hl 5 rfl) ?_
      refine lv_iconst (v := 0) hx hb d_law_422 (by decide) ?_
      refine ct_lald hx hb hK hP 0 0 rfl rfl 0 rfl (by omega) (by omega) d_law_423 ?_
      refine lv_lload hx hb d_law_424 (lv_at hl 0 rfl) ?_
      refine ct_jeq (tgt := 432) hx hb d_law_426 d_law_427 (by decide) (fun hy => ?_) (fun hy => ?_)
      · refine lv_goto (tgt := 995) hx hb d_law_432 (by decide) ?_
        refine W.widen (k := cells + 4) (n := slots + 24) (by omega) (by omega) ?_
        exact K o1 t2 n f2 cc P9 V9 g2 p2 tc T u1 hJ2 _ _ _ hP hD hS (lv_sub hl [2, 3, 4, 5, 6] rfl)
      · refine absurd ?_ hy
        rcases hr1 with ⟨e1, h1⟩ | ⟨e1, h1⟩
        · rcases h1.2 with h2 | h2; exact (show o1 0 = _ from h2.2.2.1).trans ((vl_an0 h2.1 h2.2.1).symm.trans (show v2 = _ from hv2).symm); exact (show o1 0 = _ from h2.2).trans ((hE _ _ _ _ h1.1 h2.1).trans (show v2 = _ from hv2).symm)
        · exact absurd (e1.symm.trans hz) (by decide)
  · exact absurd h3 hq
set_option maxHeartbeats 4000000 in
set_option maxRecDepth 100000 in
/-- the law's case of root -/
theorem ca_root {p : Program} {l : Launch} {e : Env} {s : State} {m : MethodId} {below : List Frame} {meth : Method} {c : Code} {dC : Nat → ClassId} {dI : Nat → Nat → Nat} {b L : Nat} {xs : Nat → Int32} {ot mx : Nat} {sd : Int64} {ro pl vl pa pr : Nat} {cL cI cT : ClassId} {fx tb : Nat} {ad tt : Nat → Nat} {s1 s2 s3 s4 tl th9 ta : Nat} {cells slots : Nat} (hL : L ≤ 2049) (C0 : lw_At p s m meth c b L xs) (hst : l.stackTraces = false) (hG : lg_G s1 s2 s3 s4 tl th9 ta (fun q : Nat => s.heap.size ≤ q) s s.heap) (hK : va_K (dC, dI) cl9 [(cL, .long), (cT, .object "HouseFunctions$Table"), (cI, .int)] s) (hE : EQ_rt) {i : Nat} (hi : i + 3 < L) (hc9 : cells + 4 ≤ 601024) (hs9 : slots + 24 ≤ 7293000)
    (K : ∀ (o : Nat → Int64) (tw : Int32) (n : Nat) (f : Nat) (cc : Nat → Nat) (P9 : Nat → Int32) (V9 : Nat → Int32) (g : Nat → Int64) (p9 : Nat → Int64) (tc : Nat) (T : fq_T) (u : rk_U), lw_J n f cc P9 V9 tc T → ∀ (H : Heap) (locs : List Loc) (ls : Array Slot), va_P (dC, dI) cl9 (lw_ws ot o mx tw sd n ro pl vl f pa pr cL cI cT cc P9 V9 g p9 fx tb ad tt tc T u) H → va_D (fun q : Nat => s.heap.size ≤ q) (lw_ws ot o mx tw sd n ro pl vl f pa pr cL cI cT cc P9 V9 g p9 fx tb ad tt tc T u) → va_S (fun q : Nat => s.heap.size ≤ q) s.heap H locs → lv_has ls 8 [(0, .ref b), (1, .ref fx), (2, .ref mx), (3, .ref ot), (4, .int (nI i))] → W p l e room_1 s m #[Value.ref b] below meth c H locs (cells + 4) (slots + 24) (lw_Z below #[Value.ref b] s) (F0 m 995 ls [])) :
    ∀ (o : Nat → Int64) (tw : Int32) (n : Nat) (f : Nat) (cc : Nat → Nat) (P9 : Nat → Int32) (V9 : Nat → Int32) (g : Nat → Int64) (p9 : Nat → Int64) (tc : Nat) (T : fq_T) (u : rk_U), lw_J n f cc P9 V9 tc T → ∀ (H : Heap) (locs : List Loc) (ls : Array Slot), va_P (dC, dI) cl9 (lw_ws ot o mx tw sd n ro pl vl f pa pr cL cI cT cc P9 V9 g p9 fx tb ad tt tc T u) H → va_D (fun q : Nat => s.heap.size ≤ q) (lw_ws ot o mx tw sd n ro pl vl f pa pr cL cI cT cc P9 V9 g p9 fx tb ad tt tc T u) → va_S (fun q : Nat => s.heap.size ≤ q) s.heap H locs → lv_has ls 8 [(0, .ref b), (1, .ref fx), (2, .ref mx), (3, .ref ot), (4, .int (nI i))] → W p l e room_1 s m #[Value.ref b] below meth c H locs cells slots (lw_Z below #[Value.ref b] s) (F0 m 435 ls []) := by
  obtain ⟨hx, hb, hr, hml, hown, hts, hX, hbl, hlocks, hgv⟩ := C0
  have hA : ∀ q : Nat, s.heap.size ≤ q → (fun q : Nat => s.heap.size ≤ q) q := fun _ h => h
  have hbA : ¬ (fun q : Nat => s.heap.size ≤ q) b := Nat.not_le.mpr hbl
  have ha : ∀ w ∈ al_L, w.before #[Value.ref b] s = true := fun w h => hts w (am_L w h)
  intro o tw n f cc P9 V9 g p9 tc T u hJ H locs ls hP hD hS hl
  refine lv_aload_n hx hb d_law_435 rfl (lv_at hl 1 rfl) ?_
  refine lv_aload_n hx hb d_law_436 rfl (lv_at hl 0 rfl) ?_
  refine lv_iload hx hb d_law_437 (lv_at hl 4 rfl) ?_
  refine lv_iconst (v := 1) hx hb d_law_439 (by decide) ?_
  refine lv_iadd hx hb d_law_440 ?_
  refine lv_topi (fun x_1 ex_1 => ?_)
  obtain rfl : x_1 = nI (i + 1) := ex_1.trans (nI_add i 1)
  refine va_sld hx hb hX hbl hbA hS (vp_in_nI (show i + 1 < L by omega) (by omega)) d_law_441 ?_
  refine lv_topi (fun y_2 ey_2 => ?_)
  obtain rfl : y_2 = xs (i + 1) := ey_2.trans (congrArg xs (nI_clamp (by omega)))
  refine lv_i2l hx hb d_law_442 rfl ?_
  refine lv_bipush (v := 32) hx hb d_law_443 (by decide) ?_
  refine lv_lshl (v := (pu_sl (((xs (i + 1)) : Int32).toInt64) 32)) hx hb d_law_445 rfl ?_
  refine lv_aload_n hx hb d_law_446 rfl (lv_at hl 0 rfl) ?_
  refine lv_iload hx hb d_law_447 (lv_at hl 4 rfl) ?_
  refine lv_iconst (v := 2) hx hb d_law_449 (by decide) ?_
  refine lv_iadd hx hb d_law_450 ?_
  refine lv_topi (fun x_3 ex_3 => ?_)
  obtain rfl : x_3 = nI (i + 2) := ex_3.trans (nI_add i 2)
  refine va_sld hx hb hX hbl hbA hS (vp_in_nI (show i + 2 < L by omega) (by omega)) d_law_451 ?_
  refine lv_topi (fun y_4 ey_4 => ?_)
  obtain rfl : y_4 = xs (i + 2) := ey_4.trans (congrArg xs (nI_clamp (by omega)))
  refine lv_i2l hx hb d_law_452 rfl ?_
  refine lv_ldc2 (v := 4294967295) hx hb hown (ha _ wm_L_61) d_law_453 ?_
  refine lv_land hx hb d_law_456 ?_
  refine lv_lor hx hb d_law_457 ?_
  refine lv_aload_n hx hb d_law_458 rfl (lv_at hl 0 rfl) ?_
  refine lv_iload hx hb d_law_459 (lv_at hl 4 rfl) ?_
  refine lv_iconst (v := 3) hx hb d_law_461 (by decide) ?_
  refine lv_iadd hx hb d_law_462 ?_
  refine lv_topi (fun x_5 ex_5 => ?_)
  obtain rfl : x_5 = nI (i + 3) := ex_5.trans (nI_add i 3)
  refine va_sld hx hb hX hbl hbA hS (vp_in_nI (show i + 3 < L by omega) (by omega)) d_law_463 ?_
  refine lv_topi (fun y_6 ey_6 => ?_)
  obtain rfl : y_6 = xs (i + 3) := ey_6.trans (congrArg xs (nI_clamp (by omega)))
  refine lv_aload_n hx hb d_law_464 rfl (lv_at hl 3 rfl) ?_
  refine cs_calli (vx_runSW (As := [.ref fx, .long ((pu_sl (((xs (i + 1)) : Int32).toInt64) 32) ||| ((((xs (i + 2)) : Int32).toInt64) &&& 4294967295)), .int (xs (i + 3)), .ref ot]) (rest := []) ⟨hx, hb, hml, hown, hts⟩ (c_L_root l hst dC dI ot o fx sd tb tc ad cL u s1 s2 s3 s4 tl th9 ta ((pu_sl (((xs (i + 1)) : Int32).toInt64) 32) ||| ((((xs (i + 2)) : Int32).toInt64) &&& 4294967295)) (xs (i + 3)) _) (vx_cwSW 4 hts g_law_L_root rfl rfl rfl (by decide +kernel) ⟨Nat.le_of_ble_eq_true rfl, Nat.le_of_ble_eq_true rfl⟩) (ct_pre (lg_Gok s1 s2 s3 s4 tl th9 ta) hG hK hP hD hS hA [0, 7, 27, 28, 29, 30, 31, 32, 33, 34, 35, 36, 37, 38, 39, 40, 41, 42] rfl (by decide) [0] rfl) rfl rfl hl.1 rfl (lv_room (Nat.le_of_ble_eq_true rfl)) d_law_465 ⟨show _ ≤ 601024 by omega, show _ ≤ 7293000 by omega⟩) hP hD hS hA [0, 7, 27, 28, 29, 30, 31, 32, 33, 34, 35, 36, 37, 38, 39, 40, 41, 42] rfl (by decide) (fun _ => rfl) (fun r1 w1 H locs hr1 hP hD hS => ?_)
  obtain ⟨o1, u1⟩ := w1
  obtain ⟨hP, hD⟩ : va_P (dC, dI) cl9 (lw_ws ot o1 mx tw sd n ro pl vl f pa pr cL cI cT cc P9 V9 g p9 fx tb ad tt tc T u1) H ∧ va_D (fun q : Nat => s.heap.size ≤ q) (lw_ws ot o1 mx tw sd n ro pl vl f pa pr cL cI cT cc P9 V9 g p9 fx tb ad tt tc T u1) := ct_eqP (lwsA ot o o1 mx tw sd n ro pl vl f pa pr cL cI cT cc P9 V9 g p9 fx tb ad tt tc T u u1) hP hD
  refine lv_istore (lv' := [(5, .int r1), (0, .ref b), (1, .ref fx), (2, .ref mx), (3, .ref ot), (4, .int (nI i))]) hx hb d_law_468 hl (by decide) rfl (fun ls hl => ?_)
  refine lv_aload_n hx hb d_law_470 rfl (lv_at hl 3 rfl) ?_
  refine lv_aload_n hx hb d_law_471 rfl (lv_at hl 1 rfl) ?_
  refine lv_iload hx hb d_law_472 (lv_at hl 5 rfl) ?_
  refine lv_iconst (v := 1) hx hb d_law_474 (by decide) ?_
  refine lv_iadd hx hb d_law_475 ?_
  refine lv_topi (fun x_7 ex_7 => ?_)
  obtain rfl : x_7 = nI (i + 1) := ex_7.trans (nI_add i 1)
  refine va_sld hx hb hX hbl hbA hS (vp_in_nI (show i + 1 < L by omega) (by omega)) d_law_476 ?_
  refine lv_topi (fun y_8 ey_8 => ?_)
  obtain rfl : y_8 = xs (i + 1) := ey_8.trans (congrArg xs (nI_clamp (by omega)))
  refine lv_i2l hx hb d_law_477 rfl ?_
  refine lv_bipush (v := 32) hx hb d_law_478 (by decide) ?_
  refine lv_lshl (v := (pu_sl (((xs (i + 1)) : Int32).toInt64) 32)) hx hb d_law_480 rfl ?_
  refine lv_aload_n hx hb d_law_481 rfl (lv_at hl 1 rfl) ?_
  refine lv_iload hx hb d_law_482 (lv_at hl 5 rfl) ?_
  refine lv_iconst (v := 2) hx hb d_law_484 (by decide) ?_
  refine lv_iadd hx hb d_law_485 ?_
  refine lv_topi (fun x_9 ex_9 => ?_)
  obtain rfl : x_9 = nI (i + 2) := ex_9.trans (nI_add i 2)
  refine va_sld hx hb hX hbl hbA hS (vp_in_nI (show i + 2 < L by omega) (by omega)) d_law_486 ?_
  refine lv_topi (fun y_10 ey_10 => ?_)
  obtain rfl : y_10 = xs (i + 2) := ey_10.trans (congrArg xs (nI_clamp (by omega)))
  refine lv_i2l hx hb d_law_487 rfl ?_
  refine lv_ldc2 (v := 4294967295) hx hb hown (ha _ wm_L_61) d_law_488 ?_
  refine lv_land hx hb d_law_491 ?_
  refine lv_lor hx hb d_law_492 ?_
  refine lv_aload_n hx hb d_law_493 rfl (lv_at hl 1 rfl) ?_
  refine lv_iload hx hb d_law_494 (lv_at hl 5 rfl) ?_
  refine lv_iconst (v := 3) hx hb d_law_496 (by decide) ?_
  refine lv_iadd hx hb d_law_497 ?_
  refine lv_topi (fun x_11 ex_11 => ?_)
  obtain rfl : x_11 = nI (i + 3) := ex_11.trans (nI_add i 3)
  refine va_sld hx hb hX hbl hbA hS (vp_in_nI (show i + 3 < L by omega) (by omega)) d_law_498 ?_
  refine lv_topi (fun y_12 ey_12 => ?_)
  obtain rfl : y_12 = xs (i + 3) := ey_12.trans (congrArg xs (nI_clamp (by omega)))
  refine cs_calll (va_runV (As := [.long ((pu_sl (((xs (i + 1)) : Int32).toInt64) 32) ||| ((((xs (i + 2)) : Int32).toInt64) &&& 4294967295)), .int (xs (i + 3))]) (rest := []) ⟨hx, hb, hml, hown, hts⟩ (c_M_root l dC dI mx tw sd (nI n) ro pl vl f pa pr cL g p9 ((pu_sl (((xs (i + 1)) : Int32).toInt64) 32) ||| ((((xs (i + 2)) : Int32).toInt64) &&& 4294967295)) (xs (i + 3)) hJ.1 _) (cwV 2 hts g_law_M_root rfl rfl rfl (by decide +kernel) ⟨Nat.le_of_ble_eq_true rfl, Nat.le_of_ble_eq_true rfl⟩) (ct_preV ct_G0ok trivial hK hP hD hS hA [1, 5, 6] rfl (by decide) [0] rfl 1 4 rfl rfl rfl) rfl rfl hl.1 rfl (lv_room (Nat.le_of_ble_eq_true rfl)) d_law_499 ⟨show _ ≤ 601024 by omega, show _ ≤ 7293000 by omega⟩) hP hD hS hA [1, 5, 6] rfl (by decide) (fun _ => rfl) (fun v2 w2 H locs hv2 hP hD hS => ?_)
  obtain ⟨t2, f2, g2, p2⟩ := w2
  obtain ⟨hf2, ht2, hv2⟩ := hv2
  have hf2 : f2 ≤ 20 := hf2
  obtain ⟨hP, hD⟩ : va_P (dC, dI) cl9 (lw_ws ot o1 mx t2 sd n ro pl vl f2 pa pr cL cI cT cc P9 V9 g2 p2 fx tb ad tt tc T u1) H ∧ va_D (fun q : Nat => s.heap.size ≤ q) (lw_ws ot o1 mx t2 sd n ro pl vl f2 pa pr cL cI cT cc P9 V9 g2 p2 fx tb ad tt tc T u1) := ct_eqP (lwsD ot o1 mx tw t2 sd n ro pl vl f f2 pa pr cL cI cT cc P9 V9 g g2 p9 p2 fx tb ad tt tc T u1) hP hD
  have hJ2 : lw_J n f2 cc P9 V9 tc T := ⟨hf2, hJ.2⟩
  refine lv_lstore (lv' := [(6, .long v2), (5, .int r1), (0, .ref b), (1, .ref fx), (2, .ref mx), (3, .ref ot), (4, .int (nI i))]) hx hb d_law_502 hl (by decide) rfl (fun ls hl => ?_)
  refine lv_aload_n hx hb d_law_504 rfl (lv_at hl 4 rfl) ?_
  refine cs_calli (va_runV (As := []) (rest := []) ⟨hx, hb, hml, hown, hts⟩ (c_M_thrown l dC dI mx t2 sd (nI n) ro pl vl f2 pa pr _) (cwV 0 hts g_law_M_thrown rfl rfl rfl (by decide +kernel) ⟨Nat.le_of_ble_eq_true rfl, Nat.le_of_ble_eq_true rfl⟩) (ct_preV ct_G0ok trivial hK hP hD hS hA [1] rfl (by decide) [] rfl 1 4 rfl rfl rfl) rfl rfl hl.1 rfl (lv_room (Nat.le_of_ble_eq_true rfl)) d_law_505 ⟨show _ ≤ 601024 by omega, show _ ≤ 7293000 by omega⟩) hP hD hS hA [1] rfl (by decide) (fun _ => rfl) (fun r3 w3 H locs hr3 hP hD hS => ?_)
  obtain ⟨hP, hD⟩ : va_P (dC, dI) cl9 (lw_ws ot o1 mx t2 sd n ro pl vl f2 pa pr cL cI cT cc P9 V9 g2 p2 fx tb ad tt tc T u1) H ∧ va_D (fun q : Nat => s.heap.size ≤ q) (lw_ws ot o1 mx t2 sd n ro pl vl f2 pa pr cL cI cT cc P9 V9 g2 p2 fx tb ad tt tc T u1) := ct_eqP (lwsG ot o1 mx t2 t2 sd n ro pl vl f2 pa pr cL cI cT cc P9 V9 g2 p2 fx tb ad tt tc T u1) hP hD
  refine lv_iload hx hb d_law_508 (lv_at hl 1 rfl) ?_
  have h3 : r3 = r1 := by rw [show r3 = t2 from hr3, show t2 = _ from ht2]; rcases hr1 with ⟨e1, h1⟩ | ⟨e1, h1⟩; exact (th_rt0 h1.1.1 h1.1.2).trans e1.symm; exact (th_rt1 h1).trans e1.symm
  refine lv_icmp_eq (tgt := 515) hx hb d_law_510 (by decide) (fun hq => ?_) (fun hq => ?_)
  · refine lv_iload hx hb d_law_515 (lv_at hl 1 rfl) ?_
    refine lv_if_ne (tgt := 531) hx hb d_law_517 (by decide) (fun hz => ?_) (fun hz => ?_)
    · refine lv_goto (tgt := 995) hx hb d_law_531 (by decide) ?_
      refine W.widen (k := cells + 4) (n := slots + 24) (by omega) (by omega) ?_
      exact K o1 t2 n f2 cc P9 V9 g2 p2 tc T u1 hJ2 _ _ _ hP hD hS (lv_sub hl [2, 3, 4, 5, 6] rfl)
    · refine lv_aload_n hx hb d_law_520 rfl (lv_at hl 5 rfl) ?_
      refine lv_iconst (v := 0) hx hb d_law_521 (by decide) ?_
      refine ct_lald hx hb hK hP 0 0 rfl rfl 0 rfl (by omega) (by omega) d_law_522 ?_
      refine lv_lload hx hb d_law_523 (lv_at hl 0 rfl) ?_
      refine ct_jeq (tgt := 531) hx hb d_law_525 d_law_526 (by decide) (fun hy => ?_) (fun hy => ?_)
      · refine lv_goto (tgt := 995) hx hb d_law_531 (by decide) ?_
        refine W.widen (k := cells + 4) (n := slots + 24) (by omega) (by omega) ?_
        exact K o1 t2 n f2 cc P9 V9 g2 p2 tc T u1 hJ2 _ _ _ hP hD hS (lv_sub hl [2, 3, 4, 5, 6] rfl)
      · refine absurd ?_ hy
        rcases hr1 with ⟨e1, h1⟩ | ⟨e1, h1⟩
        · obtain ⟨h0, kn, hk, ek, h2⟩ := h1; exact (show o1 0 = _ from h2).trans ((hE _ _ _ h0.1 hk).trans (by rw [← ek]; exact (show v2 = _ from hv2).symm))
        · exact absurd (e1.symm.trans hz) (by decide)
  · exact absurd h3 hq
set_option maxHeartbeats 4000000 in
set_option maxRecDepth 100000 in
/-- the law's case of dew -/
theorem ca_dew {p : Program} {l : Launch} {e : Env} {s : State} {m : MethodId} {below : List Frame} {meth : Method} {c : Code} {dC : Nat → ClassId} {dI : Nat → Nat → Nat} {b L : Nat} {xs : Nat → Int32} {ot mx : Nat} {sd : Int64} {ro pl vl pa pr : Nat} {cL cI cT : ClassId} {fx tb : Nat} {ad tt : Nat → Nat} {s1 s2 s3 s4 tl th9 ta : Nat} {cells slots : Nat} (hL : L ≤ 2049) (C0 : lw_At p s m meth c b L xs) (hst : l.stackTraces = false) (hG : lg_G s1 s2 s3 s4 tl th9 ta (fun q : Nat => s.heap.size ≤ q) s s.heap) (hK : va_K (dC, dI) cl9 [(cL, .long), (cT, .object "HouseFunctions$Table"), (cI, .int)] s) (hE : EQ_dw) {i : Nat} (hi : i + 3 < L) (hc9 : cells + 4 ≤ 601024) (hs9 : slots + 24 ≤ 7293000)
    (K : ∀ (o : Nat → Int64) (tw : Int32) (n : Nat) (f : Nat) (cc : Nat → Nat) (P9 : Nat → Int32) (V9 : Nat → Int32) (g : Nat → Int64) (p9 : Nat → Int64) (tc : Nat) (T : fq_T) (u : rk_U), lw_J n f cc P9 V9 tc T → ∀ (H : Heap) (locs : List Loc) (ls : Array Slot), va_P (dC, dI) cl9 (lw_ws ot o mx tw sd n ro pl vl f pa pr cL cI cT cc P9 V9 g p9 fx tb ad tt tc T u) H → va_D (fun q : Nat => s.heap.size ≤ q) (lw_ws ot o mx tw sd n ro pl vl f pa pr cL cI cT cc P9 V9 g p9 fx tb ad tt tc T u) → va_S (fun q : Nat => s.heap.size ≤ q) s.heap H locs → lv_has ls 8 [(0, .ref b), (1, .ref fx), (2, .ref mx), (3, .ref ot), (4, .int (nI i))] → W p l e room_1 s m #[Value.ref b] below meth c H locs (cells + 4) (slots + 24) (lw_Z below #[Value.ref b] s) (F0 m 995 ls [])) :
    ∀ (o : Nat → Int64) (tw : Int32) (n : Nat) (f : Nat) (cc : Nat → Nat) (P9 : Nat → Int32) (V9 : Nat → Int32) (g : Nat → Int64) (p9 : Nat → Int64) (tc : Nat) (T : fq_T) (u : rk_U), lw_J n f cc P9 V9 tc T → ∀ (H : Heap) (locs : List Loc) (ls : Array Slot), va_P (dC, dI) cl9 (lw_ws ot o mx tw sd n ro pl vl f pa pr cL cI cT cc P9 V9 g p9 fx tb ad tt tc T u) H → va_D (fun q : Nat => s.heap.size ≤ q) (lw_ws ot o mx tw sd n ro pl vl f pa pr cL cI cT cc P9 V9 g p9 fx tb ad tt tc T u) → va_S (fun q : Nat => s.heap.size ≤ q) s.heap H locs → lv_has ls 8 [(0, .ref b), (1, .ref fx), (2, .ref mx), (3, .ref ot), (4, .int (nI i))] → W p l e room_1 s m #[Value.ref b] below meth c H locs cells slots (lw_Z below #[Value.ref b] s) (F0 m 601 ls []) := by
  obtain ⟨hx, hb, hr, hml, hown, hts, hX, hbl, hlocks, hgv⟩ := C0
  have hA : ∀ q : Nat, s.heap.size ≤ q → (fun q : Nat => s.heap.size ≤ q) q := fun _ h => h
  have hbA : ¬ (fun q : Nat => s.heap.size ≤ q) b := Nat.not_le.mpr hbl
  have ha : ∀ w ∈ al_L, w.before #[Value.ref b] s = true := fun w h => hts w (am_L w h)
  intro o tw n f cc P9 V9 g p9 tc T u hJ H locs ls hP hD hS hl
  refine lv_aload_n hx hb d_law_601 rfl (lv_at hl 1 rfl) ?_
  refine lv_aload_n hx hb d_law_602 rfl (lv_at hl 0 rfl) ?_
  refine lv_iload hx hb d_law_603 (lv_at hl 4 rfl) ?_
  refine lv_iconst (v := 1) hx hb d_law_605 (by decide) ?_
  refine lv_iadd hx hb d_law_606 ?_
  refine lv_topi (fun x_1 ex_1 => ?_)
  obtain rfl : x_1 = nI (i + 1) := ex_1.trans (nI_add i 1)
  refine va_sld hx hb hX hbl hbA hS (vp_in_nI (show i + 1 < L by omega) (by omega)) d_law_607 ?_
  refine lv_topi (fun y_2 ey_2 => ?_)
  obtain rfl : y_2 = xs (i + 1) := ey_2.trans (congrArg xs (nI_clamp (by omega)))
  refine lv_aload_n hx hb d_law_608 rfl (lv_at hl 3 rfl) ?_
  refine cs_calli (vx_runSW (As := [.ref fx, .int (xs (i + 1)), .ref ot]) (rest := []) ⟨hx, hb, hml, hown, hts⟩ (c_L_dew l hst dC dI ot o fx sd tb tc ad cL u s1 s2 s3 s4 tl th9 ta (xs (i + 1)) _) (vx_cwSW 3 hts g_law_L_dew rfl rfl rfl (by decide +kernel) ⟨Nat.le_of_ble_eq_true rfl, Nat.le_of_ble_eq_true rfl⟩) (ct_pre (lg_Gok s1 s2 s3 s4 tl th9 ta) hG hK hP hD hS hA [0, 7, 27, 28, 29, 30, 31, 32, 33, 34, 35, 36, 37, 38, 39, 40, 41, 42] rfl (by decide) [0] rfl) rfl rfl hl.1 rfl (lv_room (Nat.le_of_ble_eq_true rfl)) d_law_609 ⟨show _ ≤ 601024 by omega, show _ ≤ 7293000 by omega⟩) hP hD hS hA [0, 7, 27, 28, 29, 30, 31, 32, 33, 34, 35, 36, 37, 38, 39, 40, 41, 42] rfl (by decide) (fun _ => rfl) (fun r1 w1 H locs hr1 hP hD hS => ?_)
  obtain ⟨o1, u1⟩ := w1
  obtain ⟨hP, hD⟩ : va_P (dC, dI) cl9 (lw_ws ot o1 mx tw sd n ro pl vl f pa pr cL cI cT cc P9 V9 g p9 fx tb ad tt tc T u1) H ∧ va_D (fun q : Nat => s.heap.size ≤ q) (lw_ws ot o1 mx tw sd n ro pl vl f pa pr cL cI cT cc P9 V9 g p9 fx tb ad tt tc T u1) := ct_eqP (lwsA ot o o1 mx tw sd n ro pl vl f pa pr cL cI cT cc P9 V9 g p9 fx tb ad tt tc T u u1) hP hD
  refine lv_istore (lv' := [(5, .int r1), (0, .ref b), (1, .ref fx), (2, .ref mx), (3, .ref ot), (4, .int (nI i))]) hx hb d_law_612 hl (by decide) rfl (fun ls hl => ?_)
  refine lv_aload_n hx hb d_law_614 rfl (lv_at hl 3 rfl) ?_
  refine lv_aload_n hx hb d_law_615 rfl (lv_at hl 1 rfl) ?_
  refine lv_iload hx hb d_law_616 (lv_at hl 5 rfl) ?_
  refine lv_iconst (v := 1) hx hb d_law_618 (by decide) ?_
  refine lv_iadd hx hb d_law_619 ?_
  refine lv_topi (fun x_3 ex_3 => ?_)
  obtain rfl : x_3 = nI (i + 1) := ex_3.trans (nI_add i 1)
  refine va_sld hx hb hX hbl hbA hS (vp_in_nI (show i + 1 < L by omega) (by omega)) d_law_620 ?_
  refine lv_topi (fun y_4 ey_4 => ?_)
  obtain rfl : y_4 = xs (i + 1) := ey_4.trans (congrArg xs (nI_clamp (by omega)))
  refine cs_calll (va_runV (As := [.int (xs (i + 1))]) (rest := []) ⟨hx, hb, hml, hown, hts⟩ (c_M_dew l dC dI mx tw sd (nI n) ro pl vl f pa pr cL g p9 (xs (i + 1)) hJ.1 _) (cwV 1 hts g_law_M_dew rfl rfl rfl (by decide +kernel) ⟨Nat.le_of_ble_eq_true rfl, Nat.le_of_ble_eq_true rfl⟩) (ct_preV ct_G0ok trivial hK hP hD hS hA [1, 5, 6] rfl (by decide) [0] rfl 1 4 rfl rfl rfl) rfl rfl hl.1 rfl (lv_room (Nat.le_of_ble_eq_true rfl)) d_law_621 ⟨show _ ≤ 601024 by omega, show _ ≤ 7293000 by omega⟩) hP hD hS hA [1, 5, 6] rfl (by decide) (fun _ => rfl) (fun v2 w2 H locs hv2 hP hD hS => ?_)
  obtain ⟨t2, f2, g2, p2⟩ := w2
  obtain ⟨hf2, ht2, hv2⟩ := hv2
  have hf2 : f2 ≤ 20 := hf2
  obtain ⟨hP, hD⟩ : va_P (dC, dI) cl9 (lw_ws ot o1 mx t2 sd n ro pl vl f2 pa pr cL cI cT cc P9 V9 g2 p2 fx tb ad tt tc T u1) H ∧ va_D (fun q : Nat => s.heap.size ≤ q) (lw_ws ot o1 mx t2 sd n ro pl vl f2 pa pr cL cI cT cc P9 V9 g2 p2 fx tb ad tt tc T u1) := ct_eqP (lwsD ot o1 mx tw t2 sd n ro pl vl f f2 pa pr cL cI cT cc P9 V9 g g2 p9 p2 fx tb ad tt tc T u1) hP hD
  have hJ2 : lw_J n f2 cc P9 V9 tc T := ⟨hf2, hJ.2⟩
  refine lv_lstore (lv' := [(6, .long v2), (5, .int r1), (0, .ref b), (1, .ref fx), (2, .ref mx), (3, .ref ot), (4, .int (nI i))]) hx hb d_law_624 hl (by decide) rfl (fun ls hl => ?_)
  refine lv_aload_n hx hb d_law_626 rfl (lv_at hl 4 rfl) ?_
  refine cs_calli (va_runV (As := []) (rest := []) ⟨hx, hb, hml, hown, hts⟩ (c_M_thrown l dC dI mx t2 sd (nI n) ro pl vl f2 pa pr _) (cwV 0 hts g_law_M_thrown rfl rfl rfl (by decide +kernel) ⟨Nat.le_of_ble_eq_true rfl, Nat.le_of_ble_eq_true rfl⟩) (ct_preV ct_G0ok trivial hK hP hD hS hA [1] rfl (by decide) [] rfl 1 4 rfl rfl rfl) rfl rfl hl.1 rfl (lv_room (Nat.le_of_ble_eq_true rfl)) d_law_627 ⟨show _ ≤ 601024 by omega, show _ ≤ 7293000 by omega⟩) hP hD hS hA [1] rfl (by decide) (fun _ => rfl) (fun r3 w3 H locs hr3 hP hD hS => ?_)
  obtain ⟨hP, hD⟩ : va_P (dC, dI) cl9 (lw_ws ot o1 mx t2 sd n ro pl vl f2 pa pr cL cI cT cc P9 V9 g2 p2 fx tb ad tt tc T u1) H ∧ va_D (fun q : Nat => s.heap.size ≤ q) (lw_ws ot o1 mx t2 sd n ro pl vl f2 pa pr cL cI cT cc P9 V9 g2 p2 fx tb ad tt tc T u1) := ct_eqP (lwsG ot o1 mx t2 t2 sd n ro pl vl f2 pa pr cL cI cT cc P9 V9 g2 p2 fx tb ad tt tc T u1) hP hD
  refine lv_iload hx hb d_law_630 (lv_at hl 1 rfl) ?_
  have h3 : r3 = r1 := by rw [show r3 = t2 from hr3, show t2 = _ from ht2]; rcases hr1 with ⟨e1, h1⟩ | ⟨e1, h1⟩; exact (th_dw0 h1.1).trans e1.symm; exact (th_dw1 h1).trans e1.symm
  refine lv_icmp_eq (tgt := 637) hx hb d_law_632 (by decide) (fun hq => ?_) (fun hq => ?_)
  · refine lv_iload hx hb d_law_637 (lv_at hl 1 rfl) ?_
    refine lv_if_ne (tgt := 653) hx hb d_law_639 (by decide) (fun hz => ?_) (fun hz => ?_)
    · refine lv_goto (tgt := 995) hx hb d_law_653 (by decide) ?_
      refine W.widen (k := cells + 4) (n := slots + 24) (by omega) (by omega) ?_
      exact K o1 t2 n f2 cc P9 V9 g2 p2 tc T u1 hJ2 _ _ _ hP hD hS (lv_sub hl [2, 3, 4, 5, 6] rfl)
    · refine lv_aload_n hx hb d_law_642 rfl (lv_at hl 5 rfl) ?_
      refine lv_iconst (v := 0) hx hb d_law_643 (by decide) ?_
      refine ct_lald hx hb hK hP 0 0 rfl rfl 0 rfl (by omega) (by omega) d_law_644 ?_
      refine lv_lload hx hb d_law_645 (lv_at hl 0 rfl) ?_
      refine ct_jeq (tgt := 653) hx hb d_law_647 d_law_648 (by decide) (fun hy => ?_) (fun hy => ?_)
      · refine lv_goto (tgt := 995) hx hb d_law_653 (by decide) ?_
        refine W.widen (k := cells + 4) (n := slots + 24) (by omega) (by omega) ?_
        exact K o1 t2 n f2 cc P9 V9 g2 p2 tc T u1 hJ2 _ _ _ hP hD hS (lv_sub hl [2, 3, 4, 5, 6] rfl)
      · refine absurd ?_ hy
        rcases hr1 with ⟨e1, h1⟩ | ⟨e1, h1⟩
        · obtain ⟨pf, hpf, hE⟩ := hE; exact (show o1 0 = _ from h1.2).trans ((hE _ _ h1.1).trans (show v2 = _ from hv2 pf hpf).symm)
        · exact absurd (e1.symm.trans hz) (by decide)
  · exact absurd h3 hq
