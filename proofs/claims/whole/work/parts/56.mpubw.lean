def th_wv (x : Int32) : Int32 := if x < -100000000 then 1 else if x ≤ 100000000 then 0 else 1
def vl_wv (x c : Int32) (z : S2) : Int64 := if x < -100000000 then 0 else if x ≤ 100000000 then (if x = 0 then (if c = 0 then 0 else 1000000000) else m_val (wv_P x c) (wv_V x c) z) else 0
set_option maxHeartbeats 4000000 in
set_option maxRecDepth 100000 in
/-- PI is taken away -/
theorem lp_M_wave {p : Program} {l : Launch} {e : Env} {R : Room} {s : State} {m : MethodId} {args : Array Value} {below : List Frame} {meth : Method} {c : Code} {Q : State → Prop} {A : Nat → Prop} {cells slots : Nat} {dC : Nat → ClassId} {dI : Nat → Nat → Nat} {mx : Nat} {th : Int32} {sd : Int64} {nt : Int32} {ro : Nat} {pl : Nat} {vl : Nat} {f : Nat} {pa : Nat} {pr : Nat} {cL : ClassId} {g : Nat → Int64} {p9 : Nat → Int64} {x : Int32} {c9 : Int32} {b9 : Int32} {kk : Nat} (hF : ct_F p s m meth c b_M_wave ((some .long)) 7 w_M_wave y_M_wave args) (hA : ∀ q, s.heap.size ≤ q → A q) (hK : va_K (dC, dI) cl9 [(cL, .long)] s) (hRf : 1 ≤ R.frames) (hRl : 40 ≤ R.locals) (hRc : cells ≤ R.cells) (hRs : slots ≤ R.slots) (hk : ∀ i, i < kk → ¬ md_ag 8 7 (wv_it g i) 24 < 0) (hz : md_ag 8 7 (wv_it g kk) 24 < 0)
    (K : ∀ (H : Heap) (locs : List Loc) (ls : Array Slot), va_P (dC, dI) cl9 [(mx, .inr (4, [.int th, .long sd, .int nt, .ref ro, .ref pl, .ref vl, .int (nI f), .ref pa, .ref pr])), (pa, .inl (cL, 240, .inr (.inl (wv_it g kk)))), (pr, .inl (cL, 48, .inr (.inl p9)))] H → va_D A [(mx, .inr (4, [.int th, .long sd, .int nt, .ref ro, .ref pl, .ref vl, .int (nI f), .ref pa, .ref pr])), (pa, .inl (cL, 240, .inr (.inl (wv_it g kk)))), (pr, .inl (cL, 48, .inr (.inl p9)))] → va_S A s.heap H locs → lv_has ls 7 [(0, .ref mx), (1, .int x), (2, .int c9), (6, .int (wv_b b9 kk))] → W p l e R s m args below meth c H locs cells slots Q (F0 m 136 ls [])) :
    ∀ (n9 i : Nat), i + n9 = kk → ∀ (H : Heap) (locs : List Loc) (ls : Array Slot), va_P (dC, dI) cl9 [(mx, .inr (4, [.int th, .long sd, .int nt, .ref ro, .ref pl, .ref vl, .int (nI f), .ref pa, .ref pr])), (pa, .inl (cL, 240, .inr (.inl (wv_it g i)))), (pr, .inl (cL, 48, .inr (.inl p9)))] H → va_D A [(mx, .inr (4, [.int th, .long sd, .int nt, .ref ro, .ref pl, .ref vl, .int (nI f), .ref pa, .ref pr])), (pa, .inl (cL, 240, .inr (.inl (wv_it g i)))), (pr, .inl (cL, 48, .inr (.inl p9)))] → va_S A s.heap H locs → lv_has ls 7 [(0, .ref mx), (1, .int x), (2, .int c9), (6, .int (wv_b b9 i))] → W p l e R s m args below meth c H locs cells slots Q (F0 m 102 ls []) := by
  obtain ⟨hx, hb, hr, hml, hts, hown, hlocks, hnm⟩ := id hF
  have hown : s.vm.findClass R_M = some m.cls := hown
  have ha : ∀ w ∈ al_M, w.before args s = true := fun w h => hts w (List.mem_cons_of_mem _ h)
  intro n9
  induction n9 with
  | zero =>
    intro i hi H locs ls hP hD hS hl
    obtain rfl : kk = i := by omega
    refine lv_aload_n hx hb d_M_wave_102 rfl (lv_at hl 0 rfl) ?_
    refine lv_bipush (v := 8) hx hb d_M_wave_103 (by decide) ?_
    refine lv_bipush (v := 7) hx hb d_M_wave_105 (by decide) ?_
    refine cs_calli (va_runV (As := [.int 8, .int 7]) (rest := []) ⟨hx, hb, hml, hown, ha⟩ (c_M_against l dC dI mx th sd nt ro pl vl f pa pr cL (wv_it g kk) 8 7 (by omega) (by omega) _) (cwV 2 ha g_M_M_against rfl rfl rfl (by decide +kernel) ⟨Nat.le_trans (Nat.le_of_ble_eq_true rfl) hRf, Nat.le_trans (Nat.le_of_ble_eq_true rfl) hRl⟩) (ct_preV ct_G0ok trivial hK hP hD hS hA [0, 1] rfl (by decide) [0] rfl 0 4 rfl rfl rfl) rfl rfl hl.1 rfl (lv_room (Nat.le_of_ble_eq_true rfl)) d_M_wave_107 ⟨hRc, hRs⟩) hP hD hS hA [0, 1] rfl (by decide) (fun _ => rfl) (fun r9 u7 H locs hr9 hP hD hS => ?_)
    have hP : va_P (dC, dI) cl9 [(mx, .inr (4, [.int th, .long sd, .int nt, .ref ro, .ref pl, .ref vl, .int (nI f), .ref pa, .ref pr])), (pa, .inl (cL, 240, .inr (.inl (wv_it g kk)))), (pr, .inl (cL, 48, .inr (.inl p9)))] H := hP
    have hD : va_D A [(mx, .inr (4, [.int th, .long sd, .int nt, .ref ro, .ref pl, .ref vl, .int (nI f), .ref pa, .ref pr])), (pa, .inl (cL, 240, .inr (.inl (wv_it g kk)))), (pr, .inl (cL, 48, .inr (.inl p9)))] := hD
    refine lv_if_lt (tgt := 136) hx hb d_M_wave_110 (by decide) (fun hc => ?_) (fun hc => ?_)
    · exact K _ _ _ hP hD hS (lv_sub hl [0, 1, 2, 3] rfl)
    · exact absurd (by rw [hr9]; exact hz) hc
  | succ n9 ih =>
    intro i hi H locs ls hP hD hS hl
    have hlt : i < kk := by omega
    refine lv_aload_n hx hb d_M_wave_102 rfl (lv_at hl 0 rfl) ?_
    refine lv_bipush (v := 8) hx hb d_M_wave_103 (by decide) ?_
    refine lv_bipush (v := 7) hx hb d_M_wave_105 (by decide) ?_
    refine cs_calli (va_runV (As := [.int 8, .int 7]) (rest := []) ⟨hx, hb, hml, hown, ha⟩ (c_M_against l dC dI mx th sd nt ro pl vl f pa pr cL (wv_it g i) 8 7 (by omega) (by omega) _) (cwV 2 ha g_M_M_against rfl rfl rfl (by decide +kernel) ⟨Nat.le_trans (Nat.le_of_ble_eq_true rfl) hRf, Nat.le_trans (Nat.le_of_ble_eq_true rfl) hRl⟩) (ct_preV ct_G0ok trivial hK hP hD hS hA [0, 1] rfl (by decide) [0] rfl 0 4 rfl rfl rfl) rfl rfl hl.1 rfl (lv_room (Nat.le_of_ble_eq_true rfl)) d_M_wave_107 ⟨hRc, hRs⟩) hP hD hS hA [0, 1] rfl (by decide) (fun _ => rfl) (fun r9 u7 H locs hr9 hP hD hS => ?_)
    have hP : va_P (dC, dI) cl9 [(mx, .inr (4, [.int th, .long sd, .int nt, .ref ro, .ref pl, .ref vl, .int (nI f), .ref pa, .ref pr])), (pa, .inl (cL, 240, .inr (.inl (wv_it g i)))), (pr, .inl (cL, 48, .inr (.inl p9)))] H := hP
    have hD : va_D A [(mx, .inr (4, [.int th, .long sd, .int nt, .ref ro, .ref pl, .ref vl, .int (nI f), .ref pa, .ref pr])), (pa, .inl (cL, 240, .inr (.inl (wv_it g i)))), (pr, .inl (cL, 48, .inr (.inl p9)))] := hD
    refine lv_if_lt (tgt := 136) hx hb d_M_wave_110 (by decide) (fun hc => ?_) (fun hc => ?_)
    · exact absurd (by rw [← hr9]; exact hc) (hk i hlt)
    · refine lv_aload_n hx hb d_M_wave_113 rfl (lv_at hl 0 rfl) ?_
      refine lv_bipush (v := 8) hx hb d_M_wave_114 (by decide) ?_
      refine lv_bipush (v := 7) hx hb d_M_wave_116 (by decide) ?_
      refine cs_callv (va_runV (As := [.int 8, .int 7]) (rest := []) ⟨hx, hb, hml, hown, ha⟩ (c_M_less l dC dI mx th sd nt ro pl vl f pa pr cL (wv_it g i) 8 7 (by omega) (by omega) _) (cwV 2 ha g_M_M_less rfl rfl rfl (by decide +kernel) ⟨Nat.le_trans (Nat.le_of_ble_eq_true rfl) hRf, Nat.le_trans (Nat.le_of_ble_eq_true rfl) hRl⟩) (ct_preV ct_G0ok trivial hK hP hD hS hA [0, 1] rfl (by decide) [0] rfl 0 4 rfl rfl rfl) rfl rfl hl.1 rfl (lv_room (Nat.le_of_ble_eq_true rfl)) d_M_wave_118 ⟨hRc, hRs⟩) hP hD hS hA [0, 1] rfl (by decide) (fun _ => rfl) (fun g_1 H locs hg_1 hP hD hS => ?_)
      have hP : va_P (dC, dI) cl9 [(mx, .inr (4, [.int th, .long sd, .int nt, .ref ro, .ref pl, .ref vl, .int (nI f), .ref pa, .ref pr])), (pa, .inl (cL, 240, .inr (.inl g_1))), (pr, .inl (cL, 48, .inr (.inl p9)))] H := hP
      have hD : va_D A [(mx, .inr (4, [.int th, .long sd, .int nt, .ref ro, .ref pl, .ref vl, .int (nI f), .ref pa, .ref pr])), (pa, .inl (cL, 240, .inr (.inl g_1))), (pr, .inl (cL, 48, .inr (.inl p9)))] := hD
      have hg_1 : g_1 = mr_les 8 7 (wv_it g i) := hg_1.trans (ir_eq _).symm
      refine lv_iload hx hb d_M_wave_121 (lv_at hl 3 rfl) ?_
      refine lv_if_ne (tgt := 130) hx hb d_M_wave_123 (by decide) (fun hs_2 => ?_) (fun hs_2 => ?_)
      · refine lv_iconst (v := 0) hx hb d_M_wave_130 (by decide) ?_
        rw [show (0 : Int32) = wv_b b9 (i + 1) from (if_neg hs_2).symm]
        refine lv_istore (lv' := [(6, .int (wv_b b9 (i + 1))), (0, .ref mx), (1, .int x), (2, .int c9)]) hx hb d_M_wave_131 hl (by decide) rfl (fun ls hl => ?_)
        refine lv_goto (tgt := 102) hx hb d_M_wave_133 (by decide) ?_
        have e9 : wv_it g (i + 1) = g_1 := (hg_1).symm
        exact ih (i + 1) (by omega) _ _ _ (by rw [e9]; exact hP) (by rw [e9]; exact hD) hS (lv_sub hl [1, 2, 3, 0] rfl)
      · refine lv_iconst (v := 1) hx hb d_M_wave_126 (by decide) ?_
        refine lv_goto (tgt := 131) hx hb d_M_wave_127 (by decide) ?_
        rw [show (1 : Int32) = wv_b b9 (i + 1) from (if_pos hs_2).symm]
        refine lv_istore (lv' := [(6, .int (wv_b b9 (i + 1))), (0, .ref mx), (1, .int x), (2, .int c9)]) hx hb d_M_wave_131 hl (by decide) rfl (fun ls hl => ?_)
        refine lv_goto (tgt := 102) hx hb d_M_wave_133 (by decide) ?_
        have e9 : wv_it g (i + 1) = g_1 := (hg_1).symm
        exact ih (i + 1) (by omega) _ _ _ (by rw [e9]; exact hP) (by rw [e9]; exact hD) hS (lv_sub hl [1, 2, 3, 0] rfl)
set_option maxHeartbeats 4000000 in
set_option maxRecDepth 100000 in
/-- one pass -/
theorem ps_M_wave {p : Program} {l : Launch} {e : Env} {R : Room} {s : State} {m : MethodId} {args : Array Value} {below : List Frame} {meth : Method} {c : Code} {Q : State → Prop} {A : Nat → Prop} {cells slots : Nat} {dC : Nat → ClassId} {dI : Nat → Nat → Nat} {mx : Nat} {th : Int32} {sd : Int64} {nt : Int32} {ro : Nat} {pl : Nat} {vl : Nat} {f : Nat} {pa : Nat} {pr : Nat} {cL : ClassId} {g : Nat → Int64} {p9 : Nat → Int64} {x : Int32} {c9 : Int32} (hF : ct_F p s m meth c b_M_wave ((some .long)) 7 w_M_wave y_M_wave args) (hA : ∀ q, s.heap.size ≤ q → A q) (hK : va_K (dC, dI) cl9 [(cL, .long)] s) (hRf : 4 ≤ R.frames) (hRl : 140 ≤ R.locals) (hRc : cells ≤ R.cells) (hRs : slots ≤ R.slots) (hf : f ≤ 18) (hf0 : 0 < f) (hlo : ¬ x < -100000000) (hhi : x ≤ 100000000)
    (K : ∀ (g8 p8 : Nat → Int64) (v8 : Int64), wv_P x c9 f (g, p9) = (g8, p8) → True → wv_V x c9 f (g, p9) = v8 → ∀ (H : Heap) (locs : List Loc) (ls : Array Slot), va_P (dC, dI) cl9 [(mx, .inr (4, [.int th, .long sd, .int nt, .ref ro, .ref pl, .ref vl, .int (nI f), .ref pa, .ref pr])), (pa, .inl (cL, 240, .inr (.inl g8))), (pr, .inl (cL, 48, .inr (.inl p8)))] H → va_D A [(mx, .inr (4, [.int th, .long sd, .int nt, .ref ro, .ref pl, .ref vl, .int (nI f), .ref pa, .ref pr])), (pa, .inl (cL, 240, .inr (.inl g8))), (pr, .inl (cL, 48, .inr (.inl p8)))] → va_S A s.heap H locs → lv_has ls 7 [(0, .ref mx), (1, .int x), (2, .int c9)] → W p l e R s m args below meth c H locs cells slots Q (F0 m 195 ls [.long v8])) :
    ∀ (H : Heap) (locs : List Loc) (ls : Array Slot), va_P (dC, dI) cl9 [(mx, .inr (4, [.int th, .long sd, .int nt, .ref ro, .ref pl, .ref vl, .int (nI f), .ref pa, .ref pr])), (pa, .inl (cL, 240, .inr (.inl g))), (pr, .inl (cL, 48, .inr (.inl p9)))] H → va_D A [(mx, .inr (4, [.int th, .long sd, .int nt, .ref ro, .ref pl, .ref vl, .int (nI f), .ref pa, .ref pr])), (pa, .inl (cL, 240, .inr (.inl g))), (pr, .inl (cL, 48, .inr (.inl p9)))] → va_S A s.heap H locs → lv_has ls 7 [(0, .ref mx), (1, .int x), (2, .int c9)] → W p l e R s m args below meth c H locs cells slots Q (F0 m 62 ls []) := by
  obtain ⟨hx, hb, hr, hml, hts, hown, hlocks, hnm⟩ := id hF
  have hown : s.vm.findClass R_M = some m.cls := hown
  have ha : ∀ w ∈ al_M, w.before args s = true := fun w h => hts w (List.mem_cons_of_mem _ h)
  intro H locs ls hP hD hS hl
  refine lv_aload_n hx hb d_M_wave_62 rfl (lv_at hl 0 rfl) ?_
  refine cs_callv (va_runV (As := []) (rest := []) ⟨hx, hb, hml, hown, ha⟩ (d_M_half l dC dI mx th sd nt ro pl vl f pa pr cL g (by omega) _) (cwV 0 ha g_M_M_half rfl rfl rfl (by decide +kernel) ⟨Nat.le_trans (Nat.le_of_ble_eq_true rfl) hRf, Nat.le_trans (Nat.le_of_ble_eq_true rfl) hRl⟩) (ct_preV ct_G0ok trivial hK hP hD hS hA [0, 1] rfl (by decide) [0] rfl 0 4 rfl rfl rfl) rfl rfl hl.1 rfl (lv_room (Nat.le_of_ble_eq_true rfl)) d_M_wave_63 ⟨hRc, hRs⟩) hP hD hS hA [0, 1] rfl (by decide) (fun _ => rfl) (fun g_3 H locs hg_3 hP hD hS => ?_)
  have hP : va_P (dC, dI) cl9 [(mx, .inr (4, [.int th, .long sd, .int nt, .ref ro, .ref pl, .ref vl, .int (nI f), .ref pa, .ref pr])), (pa, .inl (cL, 240, .inr (.inl g_3))), (pr, .inl (cL, 48, .inr (.inl p9)))] H := hP
  have hD : va_D A [(mx, .inr (4, [.int th, .long sd, .int nt, .ref ro, .ref pl, .ref vl, .int (nI f), .ref pa, .ref pr])), (pa, .inl (cL, 240, .inr (.inl g_3))), (pr, .inl (cL, 48, .inr (.inl p9)))] := hD
  have hg_3 : g_3 = hfr f g := hg_3
  refine lv_aload_n hx hb d_M_wave_66 rfl (lv_at hl 0 rfl) ?_
  refine lv_bipush (v := 8) hx hb d_M_wave_67 (by decide) ?_
  refine lv_iload_n hx hb d_M_wave_69 rfl (lv_at hl 1 rfl) ?_
  refine lv_if_ge (tgt := 79) hx hb d_M_wave_70 (by decide) (fun hs_4 => ?_) (fun hs_4 => ?_)
  · refine lv_iload_n hx hb d_M_wave_79 rfl (lv_at hl 1 rfl) ?_
    refine lv_i2l hx hb d_M_wave_80 rfl ?_
    rw [show ((x : Int32).toInt64 : Int64) = ab9 x from (if_pos hs_4).symm]
    refine lv_ldc2 (v := 1000000) hx hb hown (ha _ wm_M_32) d_M_wave_81 ?_
    refine cs_callv (va_runV (As := [.int 8, .long (ab9 x), .long 1000000]) (rest := []) ⟨hx, hb, hml, hown, ha⟩ (c_M_ratio l dC dI mx th sd nt ro pl vl f pa pr cL g_3 8 (ab9 x) 1000000 (by omega) (by omega) (by decide) _) (cwV 3 ha g_M_M_ratio rfl rfl rfl (by decide +kernel) ⟨Nat.le_trans (Nat.le_of_ble_eq_true rfl) hRf, Nat.le_trans (Nat.le_of_ble_eq_true rfl) hRl⟩) (ct_preV ct_G0ok trivial hK hP hD hS hA [0, 1] rfl (by decide) [0] rfl 0 4 rfl rfl rfl) rfl rfl hl.1 rfl (lv_room (Nat.le_of_ble_eq_true rfl)) d_M_wave_84 ⟨hRc, hRs⟩) hP hD hS hA [0, 1] rfl (by decide) (fun _ => rfl) (fun g_5 H locs hg_5 hP hD hS => ?_)
    have hP : va_P (dC, dI) cl9 [(mx, .inr (4, [.int th, .long sd, .int nt, .ref ro, .ref pl, .ref vl, .int (nI f), .ref pa, .ref pr])), (pa, .inl (cL, 240, .inr (.inl g_5))), (pr, .inl (cL, 48, .inr (.inl p9)))] H := hP
    have hD : va_D A [(mx, .inr (4, [.int th, .long sd, .int nt, .ref ro, .ref pl, .ref vl, .int (nI f), .ref pa, .ref pr])), (pa, .inl (cL, 240, .inr (.inl g_5))), (pr, .inl (cL, 48, .inr (.inl p9)))] := hD
    have hg_5 : g_5 = pw_x f x g_3 := hg_5
    refine lv_iload_n hx hb d_M_wave_87 rfl (lv_at hl 1 rfl) ?_
    have hw0 : g_5 = wv_g0 x f g := by rw [hg_5, hg_3]; rfl
    have hst := wv_st (g := g) (f := f) (x := x) (by omega) hf0 hlo hhi
    rw [← hw0] at hst
    refine lv_if_ge (tgt := 99) hx hb d_M_wave_88 (by decide) (fun hs_6 => ?_) (fun hs_6 => ?_)
    · refine lv_iconst (v := 0) hx hb d_M_wave_99 (by decide) ?_
      rw [show (0 : Int32) = wv_0 x c9 from (if_pos hs_4).symm]
      refine lv_istore (lv' := [(6, .int (wv_0 x c9)), (0, .ref mx), (1, .int x), (2, .int c9)]) hx hb d_M_wave_100 hl (by decide) rfl (fun ls hl => ?_)
      refine lp_M_wave (mx := mx) (th := th) (sd := sd) (nt := nt) (ro := ro) (pl := pl) (vl := vl) (f := f) (pa := pa) (pr := pr) (cL := cL) (g := g_5) (p9 := p9) (x := x) (c9 := c9) (b9 := wv_0 x c9) (kk := wv_k g_5) hF hA hK (Nat.le_trans (by decide) hRf) (Nat.le_trans (by decide) hRl) hRc hRs hst.2.1 hst.2.2 (fun H locs ls hP hD hS hl => ?_) (wv_k g_5) 0 (by omega) _ _ _ hP hD hS (lv_sub hl [1, 2, 3, 0] rfl)
      obtain ⟨g3, hg3⟩ : ∃ y, y = wv_it g_5 (wv_k g_5) := ⟨_, rfl⟩
      obtain ⟨b3, hb3⟩ : ∃ y, y = wv_b (wv_0 x c9) (wv_k g_5) := ⟨_, rfl⟩
      rw [← hg3] at hP hD
      rw [← hb3] at hl
      have hG1 : g3 = wv_g1 x f g := by rw [hg3, hw0]; rfl
      have hB1 : b3 = wv_b1 x c9 f g := by rw [hb3, hw0]; rfl
      refine lv_aload_n hx hb d_M_wave_136 rfl (lv_at hl 0 rfl) ?_
      refine lv_bipush (v := 8) hx hb d_M_wave_137 (by decide) ?_
      refine lv_iconst (v := 4) hx hb d_M_wave_139 (by decide) ?_
      refine cs_calli (va_runV (As := [.int 8, .int 4]) (rest := []) ⟨hx, hb, hml, hown, ha⟩ (c_M_against l dC dI mx th sd nt ro pl vl f pa pr cL g3 8 4 (by omega) (by omega) _) (cwV 2 ha g_M_M_against rfl rfl rfl (by decide +kernel) ⟨Nat.le_trans (Nat.le_of_ble_eq_true rfl) hRf, Nat.le_trans (Nat.le_of_ble_eq_true rfl) hRl⟩) (ct_preV ct_G0ok trivial hK hP hD hS hA [0, 1] rfl (by decide) [0] rfl 0 4 rfl rfl rfl) rfl rfl hl.1 rfl (lv_room (Nat.le_of_ble_eq_true rfl)) d_M_wave_140 ⟨hRc, hRs⟩) hP hD hS hA [0, 1] rfl (by decide) (fun _ => rfl) (fun r5 u7 H locs hr5 hP hD hS => ?_)
      have hP : va_P (dC, dI) cl9 [(mx, .inr (4, [.int th, .long sd, .int nt, .ref ro, .ref pl, .ref vl, .int (nI f), .ref pa, .ref pr])), (pa, .inl (cL, 240, .inr (.inl g3))), (pr, .inl (cL, 48, .inr (.inl p9)))] H := hP
      have hD : va_D A [(mx, .inr (4, [.int th, .long sd, .int nt, .ref ro, .ref pl, .ref vl, .int (nI f), .ref pa, .ref pr])), (pa, .inl (cL, 240, .inr (.inl g3))), (pr, .inl (cL, 48, .inr (.inl p9)))] := hD
      refine lv_if_le (tgt := 183) hx hb d_M_wave_143 (by decide) (fun hs_7 => ?_) (fun hs_7 => ?_)
      · have hag : md_ag 8 4 g3 24 ≤ 0 := hr5 ▸ hs_7
        have h2 : g3 = wv_2 (wv_g1 x f g) := by rw [← hG1]; exact (if_pos hag).symm
        have h3 : wv_3 c9 (wv_b1 x c9 f g) (wv_g1 x f g) = b3 := by rw [← hB1, ← hG1]; exact if_pos hag
        have hX := wv_q (g := g) (f := f) (x := x) (by omega) hf0 hlo hhi
        rw [← h2] at hX
        refine lv_aload_n hx hb d_M_wave_183 rfl (lv_at hl 0 rfl) ?_
        refine lv_iload_n hx hb d_M_wave_184 rfl (lv_at hl 2 rfl) ?_
        refine cs_callv (va_runV (As := [.int c9]) (rest := []) ⟨hx, hb, hml, hown, ha⟩ (d_M_quarter l dC dI mx th sd nt ro pl vl f pa pr cL g3 p9 c9 hf hX.1 hX.2 _) (cwV 1 ha g_M_M_quarter rfl rfl rfl (by decide +kernel) ⟨Nat.le_trans (Nat.le_of_ble_eq_true rfl) hRf, Nat.le_trans (Nat.le_of_ble_eq_true rfl) hRl⟩) (ct_preV ct_G0ok trivial hK hP hD hS hA [0, 1, 2] rfl (by decide) [0] rfl 0 4 rfl rfl rfl) rfl rfl hl.1 rfl (lv_room (Nat.le_of_ble_eq_true rfl)) d_M_wave_185 ⟨hRc, hRs⟩) hP hD hS hA [0, 1, 2] rfl (by decide) (fun _ => rfl) (fun z_8 H locs hz_8 hP hD hS => ?_)
        have hP : va_P (dC, dI) cl9 [(mx, .inr (4, [.int th, .long sd, .int nt, .ref ro, .ref pl, .ref vl, .int (nI f), .ref pa, .ref pr])), (pa, .inl (cL, 240, .inr (.inl z_8.1))), (pr, .inl (cL, 48, .inr (.inl z_8.2)))] H := hP
        have hD : va_D A [(mx, .inr (4, [.int th, .long sd, .int nt, .ref ro, .ref pl, .ref vl, .int (nI f), .ref pa, .ref pr])), (pa, .inl (cL, 240, .inr (.inl z_8.1))), (pr, .inl (cL, 48, .inr (.inl z_8.2)))] := hD
        obtain ⟨g_9, p_10⟩ := z_8
        have hg_9 : g_9 = (qur f c9 g3 p9).1 := congrArg Prod.fst hz_8
        have hp_10 : p_10 = (qur f c9 g3 p9).2 := congrArg Prod.snd hz_8
        have hP : va_P (dC, dI) cl9 [(mx, .inr (4, [.int th, .long sd, .int nt, .ref ro, .ref pl, .ref vl, .int (nI f), .ref pa, .ref pr])), (pa, .inl (cL, 240, .inr (.inl g_9))), (pr, .inl (cL, 48, .inr (.inl p_10)))] H := hP
        have hD : va_D A [(mx, .inr (4, [.int th, .long sd, .int nt, .ref ro, .ref pl, .ref vl, .int (nI f), .ref pa, .ref pr])), (pa, .inl (cL, 240, .inr (.inl g_9))), (pr, .inl (cL, 48, .inr (.inl p_10)))] := hD
        refine lv_aload_n hx hb d_M_wave_188 rfl (lv_at hl 0 rfl) ?_
        refine lv_iconst (v := 0) hx hb d_M_wave_189 (by decide) ?_
        refine lv_iload hx hb d_M_wave_190 (lv_at hl 3 rfl) ?_
        refine cs_calll (va_runV (As := [.int 0, .int b3]) (rest := []) ⟨hx, hb, hml, hown, ha⟩ (c_M_told l dC dI mx th sd nt ro pl vl f pa pr cL g_9 0 b3 (by omega) (by omega) _) (cwV 2 ha g_M_M_told rfl rfl rfl (by decide +kernel) ⟨Nat.le_trans (Nat.le_of_ble_eq_true rfl) hRf, Nat.le_trans (Nat.le_of_ble_eq_true rfl) hRl⟩) (ct_preV ct_G0ok trivial hK hP hD hS hA [0, 1] rfl (by decide) [0] rfl 0 4 rfl rfl rfl) rfl rfl hl.1 rfl (lv_room (Nat.le_of_ble_eq_true rfl)) d_M_wave_192 ⟨hRc, hRs⟩) hP hD hS hA [0, 1] rfl (by decide) (fun _ => rfl) (fun v_12 g_11 H locs hg_11 hP hD hS => ?_)
        have hP : va_P (dC, dI) cl9 [(mx, .inr (4, [.int th, .long sd, .int nt, .ref ro, .ref pl, .ref vl, .int (nI f), .ref pa, .ref pr])), (pa, .inl (cL, 240, .inr (.inl g_11))), (pr, .inl (cL, 48, .inr (.inl p_10)))] H := hP
        have hD : va_D A [(mx, .inr (4, [.int th, .long sd, .int nt, .ref ro, .ref pl, .ref vl, .int (nI f), .ref pa, .ref pr])), (pa, .inl (cL, 240, .inr (.inl g_11))), (pr, .inl (cL, 48, .inr (.inl p_10)))] := hD
        obtain ⟨hg_11, hv_12⟩ := hg_11
        have eP : wv_P x c9 f (g, p9) = (g_11, p_10) := by rw [hg_11, hp_10, hg_9, h2]; rfl
        have eV : wv_V x c9 f (g, p9) = v_12 := by show m_say f (wv_3 c9 (wv_b1 x c9 f g) (wv_g1 x f g)) _ = _; rw [h3, eP]; exact (hv_12).symm
        exact K _ _ _ eP trivial eV _ _ _ hP hD hS (lv_sub hl [0, 1, 2] rfl)
      · have hag : ¬ md_ag 8 4 g3 24 ≤ 0 := fun q => hs_7 (hr5 ▸ q)
        refine lv_aload_n hx hb d_M_wave_146 rfl (lv_at hl 0 rfl) ?_
        refine lv_bipush (v := 6) hx hb d_M_wave_147 (by decide) ?_
        refine lv_bipush (v := 7) hx hb d_M_wave_149 (by decide) ?_
        refine cs_callv (va_runV (As := [.int 6, .int 7]) (rest := []) ⟨hx, hb, hml, hown, ha⟩ (c_M_copy l dC dI mx th sd nt ro pl vl f pa pr cL g3 6 7 (by omega) (by omega) _) (cwV 2 ha g_M_M_copy rfl rfl rfl (by decide +kernel) ⟨Nat.le_trans (Nat.le_of_ble_eq_true rfl) hRf, Nat.le_trans (Nat.le_of_ble_eq_true rfl) hRl⟩) (ct_preV ct_G0ok trivial hK hP hD hS hA [0, 1] rfl (by decide) [0] rfl 0 4 rfl rfl rfl) rfl rfl hl.1 rfl (lv_room (Nat.le_of_ble_eq_true rfl)) d_M_wave_151 ⟨hRc, hRs⟩) hP hD hS hA [0, 1] rfl (by decide) (fun _ => rfl) (fun g_13 H locs hg_13 hP hD hS => ?_)
        have hP : va_P (dC, dI) cl9 [(mx, .inr (4, [.int th, .long sd, .int nt, .ref ro, .ref pl, .ref vl, .int (nI f), .ref pa, .ref pr])), (pa, .inl (cL, 240, .inr (.inl g_13))), (pr, .inl (cL, 48, .inr (.inl p9)))] H := hP
        have hD : va_D A [(mx, .inr (4, [.int th, .long sd, .int nt, .ref ro, .ref pl, .ref vl, .int (nI f), .ref pa, .ref pr])), (pa, .inl (cL, 240, .inr (.inl g_13))), (pr, .inl (cL, 48, .inr (.inl p9)))] := hD
        have hg_13 : g_13 = mr_cp 6 7 g3 := hg_13.trans (ir_eq _).symm
        refine lv_aload_n hx hb d_M_wave_154 rfl (lv_at hl 0 rfl) ?_
        refine lv_bipush (v := 6) hx hb d_M_wave_155 (by decide) ?_
        refine lv_bipush (v := 8) hx hb d_M_wave_157 (by decide) ?_
        refine cs_callv (va_runV (As := [.int 6, .int 8]) (rest := []) ⟨hx, hb, hml, hown, ha⟩ (c_M_less l dC dI mx th sd nt ro pl vl f pa pr cL g_13 6 8 (by omega) (by omega) _) (cwV 2 ha g_M_M_less rfl rfl rfl (by decide +kernel) ⟨Nat.le_trans (Nat.le_of_ble_eq_true rfl) hRf, Nat.le_trans (Nat.le_of_ble_eq_true rfl) hRl⟩) (ct_preV ct_G0ok trivial hK hP hD hS hA [0, 1] rfl (by decide) [0] rfl 0 4 rfl rfl rfl) rfl rfl hl.1 rfl (lv_room (Nat.le_of_ble_eq_true rfl)) d_M_wave_159 ⟨hRc, hRs⟩) hP hD hS hA [0, 1] rfl (by decide) (fun _ => rfl) (fun g_14 H locs hg_14 hP hD hS => ?_)
        have hP : va_P (dC, dI) cl9 [(mx, .inr (4, [.int th, .long sd, .int nt, .ref ro, .ref pl, .ref vl, .int (nI f), .ref pa, .ref pr])), (pa, .inl (cL, 240, .inr (.inl g_14))), (pr, .inl (cL, 48, .inr (.inl p9)))] H := hP
        have hD : va_D A [(mx, .inr (4, [.int th, .long sd, .int nt, .ref ro, .ref pl, .ref vl, .int (nI f), .ref pa, .ref pr])), (pa, .inl (cL, 240, .inr (.inl g_14))), (pr, .inl (cL, 48, .inr (.inl p9)))] := hD
        have hg_14 : g_14 = mr_les 6 8 g_13 := hg_14.trans (ir_eq _).symm
        refine lv_aload_n hx hb d_M_wave_162 rfl (lv_at hl 0 rfl) ?_
        refine lv_bipush (v := 8) hx hb d_M_wave_163 (by decide) ?_
        refine lv_bipush (v := 6) hx hb d_M_wave_165 (by decide) ?_
        refine cs_callv (va_runV (As := [.int 8, .int 6]) (rest := []) ⟨hx, hb, hml, hown, ha⟩ (c_M_copy l dC dI mx th sd nt ro pl vl f pa pr cL g_14 8 6 (by omega) (by omega) _) (cwV 2 ha g_M_M_copy rfl rfl rfl (by decide +kernel) ⟨Nat.le_trans (Nat.le_of_ble_eq_true rfl) hRf, Nat.le_trans (Nat.le_of_ble_eq_true rfl) hRl⟩) (ct_preV ct_G0ok trivial hK hP hD hS hA [0, 1] rfl (by decide) [0] rfl 0 4 rfl rfl rfl) rfl rfl hl.1 rfl (lv_room (Nat.le_of_ble_eq_true rfl)) d_M_wave_167 ⟨hRc, hRs⟩) hP hD hS hA [0, 1] rfl (by decide) (fun _ => rfl) (fun g_15 H locs hg_15 hP hD hS => ?_)
        have hP : va_P (dC, dI) cl9 [(mx, .inr (4, [.int th, .long sd, .int nt, .ref ro, .ref pl, .ref vl, .int (nI f), .ref pa, .ref pr])), (pa, .inl (cL, 240, .inr (.inl g_15))), (pr, .inl (cL, 48, .inr (.inl p9)))] H := hP
        have hD : va_D A [(mx, .inr (4, [.int th, .long sd, .int nt, .ref ro, .ref pl, .ref vl, .int (nI f), .ref pa, .ref pr])), (pa, .inl (cL, 240, .inr (.inl g_15))), (pr, .inl (cL, 48, .inr (.inl p9)))] := hD
        have hg_15 : g_15 = mr_cp 8 6 g_14 := hg_15.trans (ir_eq _).symm
        refine lv_iload hx hb d_M_wave_170 (lv_at hl 3 rfl) ?_
        refine lv_iload_n hx hb d_M_wave_172 rfl (lv_at hl 2 rfl) ?_
        have h2 : g_15 = wv_2 (wv_g1 x f g) := by rw [hg_15, hg_14, hg_13]; rw [← hG1]; exact (if_neg hag).symm
        refine lv_icmp_eq (tgt := 180) hx hb d_M_wave_173 (by decide) (fun hs_16 => ?_) (fun hs_16 => ?_)
        · refine lv_iconst (v := 0) hx hb d_M_wave_180 (by decide) ?_
          rw [show (0 : Int32) = wv_3 c9 b3 g3 from ((if_neg hag).trans (if_pos hs_16)).symm]
          have h3 : wv_3 c9 (wv_b1 x c9 f g) (wv_g1 x f g) = wv_3 c9 b3 g3 := by rw [← hB1, ← hG1]
          have hX := wv_q (g := g) (f := f) (x := x) (by omega) hf0 hlo hhi
          rw [← h2] at hX
          refine lv_istore (lv' := [(6, .int (wv_3 c9 b3 g3)), (0, .ref mx), (1, .int x), (2, .int c9)]) hx hb d_M_wave_181 hl (by decide) rfl (fun ls hl => ?_)
          refine lv_aload_n hx hb d_M_wave_183 rfl (lv_at hl 1 rfl) ?_
          refine lv_iload_n hx hb d_M_wave_184 rfl (lv_at hl 3 rfl) ?_
          refine cs_callv (va_runV (As := [.int c9]) (rest := []) ⟨hx, hb, hml, hown, ha⟩ (d_M_quarter l dC dI mx th sd nt ro pl vl f pa pr cL g_15 p9 c9 hf hX.1 hX.2 _) (cwV 1 ha g_M_M_quarter rfl rfl rfl (by decide +kernel) ⟨Nat.le_trans (Nat.le_of_ble_eq_true rfl) hRf, Nat.le_trans (Nat.le_of_ble_eq_true rfl) hRl⟩) (ct_preV ct_G0ok trivial hK hP hD hS hA [0, 1, 2] rfl (by decide) [0] rfl 0 4 rfl rfl rfl) rfl rfl hl.1 rfl (lv_room (Nat.le_of_ble_eq_true rfl)) d_M_wave_185 ⟨hRc, hRs⟩) hP hD hS hA [0, 1, 2] rfl (by decide) (fun _ => rfl) (fun z_17 H locs hz_17 hP hD hS => ?_)
          have hP : va_P (dC, dI) cl9 [(mx, .inr (4, [.int th, .long sd, .int nt, .ref ro, .ref pl, .ref vl, .int (nI f), .ref pa, .ref pr])), (pa, .inl (cL, 240, .inr (.inl z_17.1))), (pr, .inl (cL, 48, .inr (.inl z_17.2)))] H := hP
          have hD : va_D A [(mx, .inr (4, [.int th, .long sd, .int nt, .ref ro, .ref pl, .ref vl, .int (nI f), .ref pa, .ref pr])), (pa, .inl (cL, 240, .inr (.inl z_17.1))), (pr, .inl (cL, 48, .inr (.inl z_17.2)))] := hD
          obtain ⟨g_18, p_19⟩ := z_17
          have hg_18 : g_18 = (qur f c9 g_15 p9).1 := congrArg Prod.fst hz_17
          have hp_19 : p_19 = (qur f c9 g_15 p9).2 := congrArg Prod.snd hz_17
          have hP : va_P (dC, dI) cl9 [(mx, .inr (4, [.int th, .long sd, .int nt, .ref ro, .ref pl, .ref vl, .int (nI f), .ref pa, .ref pr])), (pa, .inl (cL, 240, .inr (.inl g_18))), (pr, .inl (cL, 48, .inr (.inl p_19)))] H := hP
          have hD : va_D A [(mx, .inr (4, [.int th, .long sd, .int nt, .ref ro, .ref pl, .ref vl, .int (nI f), .ref pa, .ref pr])), (pa, .inl (cL, 240, .inr (.inl g_18))), (pr, .inl (cL, 48, .inr (.inl p_19)))] := hD
          refine lv_aload_n hx hb d_M_wave_188 rfl (lv_at hl 1 rfl) ?_
          refine lv_iconst (v := 0) hx hb d_M_wave_189 (by decide) ?_
          refine lv_iload hx hb d_M_wave_190 (lv_at hl 0 rfl) ?_
          refine cs_calll (va_runV (As := [.int 0, .int (wv_3 c9 b3 g3)]) (rest := []) ⟨hx, hb, hml, hown, ha⟩ (c_M_told l dC dI mx th sd nt ro pl vl f pa pr cL g_18 0 (wv_3 c9 b3 g3) (by omega) (by omega) _) (cwV 2 ha g_M_M_told rfl rfl rfl (by decide +kernel) ⟨Nat.le_trans (Nat.le_of_ble_eq_true rfl) hRf, Nat.le_trans (Nat.le_of_ble_eq_true rfl) hRl⟩) (ct_preV ct_G0ok trivial hK hP hD hS hA [0, 1] rfl (by decide) [0] rfl 0 4 rfl rfl rfl) rfl rfl hl.1 rfl (lv_room (Nat.le_of_ble_eq_true rfl)) d_M_wave_192 ⟨hRc, hRs⟩) hP hD hS hA [0, 1] rfl (by decide) (fun _ => rfl) (fun v_21 g_20 H locs hg_20 hP hD hS => ?_)
          have hP : va_P (dC, dI) cl9 [(mx, .inr (4, [.int th, .long sd, .int nt, .ref ro, .ref pl, .ref vl, .int (nI f), .ref pa, .ref pr])), (pa, .inl (cL, 240, .inr (.inl g_20))), (pr, .inl (cL, 48, .inr (.inl p_19)))] H := hP
          have hD : va_D A [(mx, .inr (4, [.int th, .long sd, .int nt, .ref ro, .ref pl, .ref vl, .int (nI f), .ref pa, .ref pr])), (pa, .inl (cL, 240, .inr (.inl g_20))), (pr, .inl (cL, 48, .inr (.inl p_19)))] := hD
          obtain ⟨hg_20, hv_21⟩ := hg_20
          have eP : wv_P x c9 f (g, p9) = (g_20, p_19) := by rw [hg_20, hp_19, hg_18, h2]; rfl
          have eV : wv_V x c9 f (g, p9) = v_21 := by show m_say f (wv_3 c9 (wv_b1 x c9 f g) (wv_g1 x f g)) _ = _; rw [h3, eP]; exact (hv_21).symm
          exact K _ _ _ eP trivial eV _ _ _ hP hD hS (lv_sub hl [1, 2, 3] rfl)
        · refine lv_iconst (v := 1) hx hb d_M_wave_176 (by decide) ?_
          refine lv_goto (tgt := 181) hx hb d_M_wave_177 (by decide) ?_
          rw [show (1 : Int32) = wv_3 c9 b3 g3 from ((if_neg hag).trans (if_neg hs_16)).symm]
          have h3 : wv_3 c9 (wv_b1 x c9 f g) (wv_g1 x f g) = wv_3 c9 b3 g3 := by rw [← hB1, ← hG1]
          have hX := wv_q (g := g) (f := f) (x := x) (by omega) hf0 hlo hhi
          rw [← h2] at hX
          refine lv_istore (lv' := [(6, .int (wv_3 c9 b3 g3)), (0, .ref mx), (1, .int x), (2, .int c9)]) hx hb d_M_wave_181 hl (by decide) rfl (fun ls hl => ?_)
          refine lv_aload_n hx hb d_M_wave_183 rfl (lv_at hl 1 rfl) ?_
          refine lv_iload_n hx hb d_M_wave_184 rfl (lv_at hl 3 rfl) ?_
          refine cs_callv (va_runV (As := [.int c9]) (rest := []) ⟨hx, hb, hml, hown, ha⟩ (d_M_quarter l dC dI mx th sd nt ro pl vl f pa pr cL g_15 p9 c9 hf hX.1 hX.2 _) (cwV 1 ha g_M_M_quarter rfl rfl rfl (by decide +kernel) ⟨Nat.le_trans (Nat.le_of_ble_eq_true rfl) hRf, Nat.le_trans (Nat.le_of_ble_eq_true rfl) hRl⟩) (ct_preV ct_G0ok trivial hK hP hD hS hA [0, 1, 2] rfl (by decide) [0] rfl 0 4 rfl rfl rfl) rfl rfl hl.1 rfl (lv_room (Nat.le_of_ble_eq_true rfl)) d_M_wave_185 ⟨hRc, hRs⟩) hP hD hS hA [0, 1, 2] rfl (by decide) (fun _ => rfl) (fun z_22 H locs hz_22 hP hD hS => ?_)
          have hP : va_P (dC, dI) cl9 [(mx, .inr (4, [.int th, .long sd, .int nt, .ref ro, .ref pl, .ref vl, .int (nI f), .ref pa, .ref pr])), (pa, .inl (cL, 240, .inr (.inl z_22.1))), (pr, .inl (cL, 48, .inr (.inl z_22.2)))] H := hP
          have hD : va_D A [(mx, .inr (4, [.int th, .long sd, .int nt, .ref ro, .ref pl, .ref vl, .int (nI f), .ref pa, .ref pr])), (pa, .inl (cL, 240, .inr (.inl z_22.1))), (pr, .inl (cL, 48, .inr (.inl z_22.2)))] := hD
          obtain ⟨g_23, p_24⟩ := z_22
          have hg_23 : g_23 = (qur f c9 g_15 p9).1 := congrArg Prod.fst hz_22
          have hp_24 : p_24 = (qur f c9 g_15 p9).2 := congrArg Prod.snd hz_22
          have hP : va_P (dC, dI) cl9 [(mx, .inr (4, [.int th, .long sd, .int nt, .ref ro, .ref pl, .ref vl, .int (nI f), .ref pa, .ref pr])), (pa, .inl (cL, 240, .inr (.inl g_23))), (pr, .inl (cL, 48, .inr (.inl p_24)))] H := hP
          have hD : va_D A [(mx, .inr (4, [.int th, .long sd, .int nt, .ref ro, .ref pl, .ref vl, .int (nI f), .ref pa, .ref pr])), (pa, .inl (cL, 240, .inr (.inl g_23))), (pr, .inl (cL, 48, .inr (.inl p_24)))] := hD
          refine lv_aload_n hx hb d_M_wave_188 rfl (lv_at hl 1 rfl) ?_
          refine lv_iconst (v := 0) hx hb d_M_wave_189 (by decide) ?_
          refine lv_iload hx hb d_M_wave_190 (lv_at hl 0 rfl) ?_
          refine cs_calll (va_runV (As := [.int 0, .int (wv_3 c9 b3 g3)]) (rest := []) ⟨hx, hb, hml, hown, ha⟩ (c_M_told l dC dI mx th sd nt ro pl vl f pa pr cL g_23 0 (wv_3 c9 b3 g3) (by omega) (by omega) _) (cwV 2 ha g_M_M_told rfl rfl rfl (by decide +kernel) ⟨Nat.le_trans (Nat.le_of_ble_eq_true rfl) hRf, Nat.le_trans (Nat.le_of_ble_eq_true rfl) hRl⟩) (ct_preV ct_G0ok trivial hK hP hD hS hA [0, 1] rfl (by decide) [0] rfl 0 4 rfl rfl rfl) rfl rfl hl.1 rfl (lv_room (Nat.le_of_ble_eq_true rfl)) d_M_wave_192 ⟨hRc, hRs⟩) hP hD hS hA [0, 1] rfl (by decide) (fun _ => rfl) (fun v_26 g_25 H locs hg_25 hP hD hS => ?_)
          have hP : va_P (dC, dI) cl9 [(mx, .inr (4, [.int th, .long sd, .int nt, .ref ro, .ref pl, .ref vl, .int (nI f), .ref pa, .ref pr])), (pa, .inl (cL, 240, .inr (.inl g_25))), (pr, .inl (cL, 48, .inr (.inl p_24)))] H := hP
          have hD : va_D A [(mx, .inr (4, [.int th, .long sd, .int nt, .ref ro, .ref pl, .ref vl, .int (nI f), .ref pa, .ref pr])), (pa, .inl (cL, 240, .inr (.inl g_25))), (pr, .inl (cL, 48, .inr (.inl p_24)))] := hD
          obtain ⟨hg_25, hv_26⟩ := hg_25
          have eP : wv_P x c9 f (g, p9) = (g_25, p_24) := by rw [hg_25, hp_24, hg_23, h2]; rfl
          have eV : wv_V x c9 f (g, p9) = v_26 := by show m_say f (wv_3 c9 (wv_b1 x c9 f g) (wv_g1 x f g)) _ = _; rw [h3, eP]; exact (hv_26).symm
          exact K _ _ _ eP trivial eV _ _ _ hP hD hS (lv_sub hl [1, 2, 3] rfl)
    · exact absurd hs_4 hs_6
  · refine lv_iload_n hx hb d_M_wave_73 rfl (lv_at hl 1 rfl) ?_
    refine lv_ineg hx hb d_M_wave_74 ?_
    refine lv_i2l hx hb d_M_wave_75 rfl ?_
    refine lv_goto (tgt := 81) hx hb d_M_wave_76 (by decide) ?_
    rw [show (((-x) : Int32).toInt64 : Int64) = ab9 x from (if_neg hs_4).symm]
    refine lv_ldc2 (v := 1000000) hx hb hown (ha _ wm_M_32) d_M_wave_81 ?_
    refine cs_callv (va_runV (As := [.int 8, .long (ab9 x), .long 1000000]) (rest := []) ⟨hx, hb, hml, hown, ha⟩ (c_M_ratio l dC dI mx th sd nt ro pl vl f pa pr cL g_3 8 (ab9 x) 1000000 (by omega) (by omega) (by decide) _) (cwV 3 ha g_M_M_ratio rfl rfl rfl (by decide +kernel) ⟨Nat.le_trans (Nat.le_of_ble_eq_true rfl) hRf, Nat.le_trans (Nat.le_of_ble_eq_true rfl) hRl⟩) (ct_preV ct_G0ok trivial hK hP hD hS hA [0, 1] rfl (by decide) [0] rfl 0 4 rfl rfl rfl) rfl rfl hl.1 rfl (lv_room (Nat.le_of_ble_eq_true rfl)) d_M_wave_84 ⟨hRc, hRs⟩) hP hD hS hA [0, 1] rfl (by decide) (fun _ => rfl) (fun g_27 H locs hg_27 hP hD hS => ?_)
    have hP : va_P (dC, dI) cl9 [(mx, .inr (4, [.int th, .long sd, .int nt, .ref ro, .ref pl, .ref vl, .int (nI f), .ref pa, .ref pr])), (pa, .inl (cL, 240, .inr (.inl g_27))), (pr, .inl (cL, 48, .inr (.inl p9)))] H := hP
    have hD : va_D A [(mx, .inr (4, [.int th, .long sd, .int nt, .ref ro, .ref pl, .ref vl, .int (nI f), .ref pa, .ref pr])), (pa, .inl (cL, 240, .inr (.inl g_27))), (pr, .inl (cL, 48, .inr (.inl p9)))] := hD
    have hg_27 : g_27 = pw_x f x g_3 := hg_27
    refine lv_iload_n hx hb d_M_wave_87 rfl (lv_at hl 1 rfl) ?_
    have hw0 : g_27 = wv_g0 x f g := by rw [hg_27, hg_3]; rfl
    have hst := wv_st (g := g) (f := f) (x := x) (by omega) hf0 hlo hhi
    rw [← hw0] at hst
    refine lv_if_ge (tgt := 99) hx hb d_M_wave_88 (by decide) (fun hs_28 => ?_) (fun hs_28 => ?_)
    · exact absurd hs_28 hs_4
    · refine lv_iload_n hx hb d_M_wave_91 rfl (lv_at hl 2 rfl) ?_
      refine lv_if_ne (tgt := 99) hx hb d_M_wave_92 (by decide) (fun hs_29 => ?_) (fun hs_29 => ?_)
      · refine lv_iconst (v := 0) hx hb d_M_wave_99 (by decide) ?_
        rw [show (0 : Int32) = wv_0 x c9 from ((if_neg hs_4).trans (if_neg hs_29)).symm]
        refine lv_istore (lv' := [(6, .int (wv_0 x c9)), (0, .ref mx), (1, .int x), (2, .int c9)]) hx hb d_M_wave_100 hl (by decide) rfl (fun ls hl => ?_)
        refine lp_M_wave (mx := mx) (th := th) (sd := sd) (nt := nt) (ro := ro) (pl := pl) (vl := vl) (f := f) (pa := pa) (pr := pr) (cL := cL) (g := g_27) (p9 := p9) (x := x) (c9 := c9) (b9 := wv_0 x c9) (kk := wv_k g_27) hF hA hK (Nat.le_trans (by decide) hRf) (Nat.le_trans (by decide) hRl) hRc hRs hst.2.1 hst.2.2 (fun H locs ls hP hD hS hl => ?_) (wv_k g_27) 0 (by omega) _ _ _ hP hD hS (lv_sub hl [1, 2, 3, 0] rfl)
        obtain ⟨g3, hg3⟩ : ∃ y, y = wv_it g_27 (wv_k g_27) := ⟨_, rfl⟩
        obtain ⟨b3, hb3⟩ : ∃ y, y = wv_b (wv_0 x c9) (wv_k g_27) := ⟨_, rfl⟩
        rw [← hg3] at hP hD
        rw [← hb3] at hl
        have hG1 : g3 = wv_g1 x f g := by rw [hg3, hw0]; rfl
        have hB1 : b3 = wv_b1 x c9 f g := by rw [hb3, hw0]; rfl
        refine lv_aload_n hx hb d_M_wave_136 rfl (lv_at hl 0 rfl) ?_
        refine lv_bipush (v := 8) hx hb d_M_wave_137 (by decide) ?_
        refine lv_iconst (v := 4) hx hb d_M_wave_139 (by decide) ?_
        refine cs_calli (va_runV (As := [.int 8, .int 4]) (rest := []) ⟨hx, hb, hml, hown, ha⟩ (c_M_against l dC dI mx th sd nt ro pl vl f pa pr cL g3 8 4 (by omega) (by omega) _) (cwV 2 ha g_M_M_against rfl rfl rfl (by decide +kernel) ⟨Nat.le_trans (Nat.le_of_ble_eq_true rfl) hRf, Nat.le_trans (Nat.le_of_ble_eq_true rfl) hRl⟩) (ct_preV ct_G0ok trivial hK hP hD hS hA [0, 1] rfl (by decide) [0] rfl 0 4 rfl rfl rfl) rfl rfl hl.1 rfl (lv_room (Nat.le_of_ble_eq_true rfl)) d_M_wave_140 ⟨hRc, hRs⟩) hP hD hS hA [0, 1] rfl (by decide) (fun _ => rfl) (fun r5 u7 H locs hr5 hP hD hS => ?_)
        have hP : va_P (dC, dI) cl9 [(mx, .inr (4, [.int th, .long sd, .int nt, .ref ro, .ref pl, .ref vl, .int (nI f), .ref pa, .ref pr])), (pa, .inl (cL, 240, .inr (.inl g3))), (pr, .inl (cL, 48, .inr (.inl p9)))] H := hP
        have hD : va_D A [(mx, .inr (4, [.int th, .long sd, .int nt, .ref ro, .ref pl, .ref vl, .int (nI f), .ref pa, .ref pr])), (pa, .inl (cL, 240, .inr (.inl g3))), (pr, .inl (cL, 48, .inr (.inl p9)))] := hD
        refine lv_if_le (tgt := 183) hx hb d_M_wave_143 (by decide) (fun hs_30 => ?_) (fun hs_30 => ?_)
        · have hag : md_ag 8 4 g3 24 ≤ 0 := hr5 ▸ hs_30
          have h2 : g3 = wv_2 (wv_g1 x f g) := by rw [← hG1]; exact (if_pos hag).symm
          have h3 : wv_3 c9 (wv_b1 x c9 f g) (wv_g1 x f g) = b3 := by rw [← hB1, ← hG1]; exact if_pos hag
          have hX := wv_q (g := g) (f := f) (x := x) (by omega) hf0 hlo hhi
          rw [← h2] at hX
          refine lv_aload_n hx hb d_M_wave_183 rfl (lv_at hl 0 rfl) ?_
          refine lv_iload_n hx hb d_M_wave_184 rfl (lv_at hl 2 rfl) ?_
          refine cs_callv (va_runV (As := [.int c9]) (rest := []) ⟨hx, hb, hml, hown, ha⟩ (d_M_quarter l dC dI mx th sd nt ro pl vl f pa pr cL g3 p9 c9 hf hX.1 hX.2 _) (cwV 1 ha g_M_M_quarter rfl rfl rfl (by decide +kernel) ⟨Nat.le_trans (Nat.le_of_ble_eq_true rfl) hRf, Nat.le_trans (Nat.le_of_ble_eq_true rfl) hRl⟩) (ct_preV ct_G0ok trivial hK hP hD hS hA [0, 1, 2] rfl (by decide) [0] rfl 0 4 rfl rfl rfl) rfl rfl hl.1 rfl (lv_room (Nat.le_of_ble_eq_true rfl)) d_M_wave_185 ⟨hRc, hRs⟩) hP hD hS hA [0, 1, 2] rfl (by decide) (fun _ => rfl) (fun z_31 H locs hz_31 hP hD hS => ?_)
          have hP : va_P (dC, dI) cl9 [(mx, .inr (4, [.int th, .long sd, .int nt, .ref ro, .ref pl, .ref vl, .int (nI f), .ref pa, .ref pr])), (pa, .inl (cL, 240, .inr (.inl z_31.1))), (pr, .inl (cL, 48, .inr (.inl z_31.2)))] H := hP
          have hD : va_D A [(mx, .inr (4, [.int th, .long sd, .int nt, .ref ro, .ref pl, .ref vl, .int (nI f), .ref pa, .ref pr])), (pa, .inl (cL, 240, .inr (.inl z_31.1))), (pr, .inl (cL, 48, .inr (.inl z_31.2)))] := hD
          obtain ⟨g_32, p_33⟩ := z_31
          have hg_32 : g_32 = (qur f c9 g3 p9).1 := congrArg Prod.fst hz_31
          have hp_33 : p_33 = (qur f c9 g3 p9).2 := congrArg Prod.snd hz_31
          have hP : va_P (dC, dI) cl9 [(mx, .inr (4, [.int th, .long sd, .int nt, .ref ro, .ref pl, .ref vl, .int (nI f), .ref pa, .ref pr])), (pa, .inl (cL, 240, .inr (.inl g_32))), (pr, .inl (cL, 48, .inr (.inl p_33)))] H := hP
          have hD : va_D A [(mx, .inr (4, [.int th, .long sd, .int nt, .ref ro, .ref pl, .ref vl, .int (nI f), .ref pa, .ref pr])), (pa, .inl (cL, 240, .inr (.inl g_32))), (pr, .inl (cL, 48, .inr (.inl p_33)))] := hD
          refine lv_aload_n hx hb d_M_wave_188 rfl (lv_at hl 0 rfl) ?_
          refine lv_iconst (v := 0) hx hb d_M_wave_189 (by decide) ?_
          refine lv_iload hx hb d_M_wave_190 (lv_at hl 3 rfl) ?_
          refine cs_calll (va_runV (As := [.int 0, .int b3]) (rest := []) ⟨hx, hb, hml, hown, ha⟩ (c_M_told l dC dI mx th sd nt ro pl vl f pa pr cL g_32 0 b3 (by omega) (by omega) _) (cwV 2 ha g_M_M_told rfl rfl rfl (by decide +kernel) ⟨Nat.le_trans (Nat.le_of_ble_eq_true rfl) hRf, Nat.le_trans (Nat.le_of_ble_eq_true rfl) hRl⟩) (ct_preV ct_G0ok trivial hK hP hD hS hA [0, 1] rfl (by decide) [0] rfl 0 4 rfl rfl rfl) rfl rfl hl.1 rfl (lv_room (Nat.le_of_ble_eq_true rfl)) d_M_wave_192 ⟨hRc, hRs⟩) hP hD hS hA [0, 1] rfl (by decide) (fun _ => rfl) (fun v_35 g_34 H locs hg_34 hP hD hS => ?_)
          have hP : va_P (dC, dI) cl9 [(mx, .inr (4, [.int th, .long sd, .int nt, .ref ro, .ref pl, .ref vl, .int (nI f), .ref pa, .ref pr])), (pa, .inl (cL, 240, .inr (.inl g_34))), (pr, .inl (cL, 48, .inr (.inl p_33)))] H := hP
          have hD : va_D A [(mx, .inr (4, [.int th, .long sd, .int nt, .ref ro, .ref pl, .ref vl, .int (nI f), .ref pa, .ref pr])), (pa, .inl (cL, 240, .inr (.inl g_34))), (pr, .inl (cL, 48, .inr (.inl p_33)))] := hD
          obtain ⟨hg_34, hv_35⟩ := hg_34
          have eP : wv_P x c9 f (g, p9) = (g_34, p_33) := by rw [hg_34, hp_33, hg_32, h2]; rfl
          have eV : wv_V x c9 f (g, p9) = v_35 := by show m_say f (wv_3 c9 (wv_b1 x c9 f g) (wv_g1 x f g)) _ = _; rw [h3, eP]; exact (hv_35).symm
          exact K _ _ _ eP trivial eV _ _ _ hP hD hS (lv_sub hl [0, 1, 2] rfl)
        · have hag : ¬ md_ag 8 4 g3 24 ≤ 0 := fun q => hs_30 (hr5 ▸ q)
          refine lv_aload_n hx hb d_M_wave_146 rfl (lv_at hl 0 rfl) ?_
          refine lv_bipush (v := 6) hx hb d_M_wave_147 (by decide) ?_
          refine lv_bipush (v := 7) hx hb d_M_wave_149 (by decide) ?_
          refine cs_callv (va_runV (As := [.int 6, .int 7]) (rest := []) ⟨hx, hb, hml, hown, ha⟩ (c_M_copy l dC dI mx th sd nt ro pl vl f pa pr cL g3 6 7 (by omega) (by omega) _) (cwV 2 ha g_M_M_copy rfl rfl rfl (by decide +kernel) ⟨Nat.le_trans (Nat.le_of_ble_eq_true rfl) hRf, Nat.le_trans (Nat.le_of_ble_eq_true rfl) hRl⟩) (ct_preV ct_G0ok trivial hK hP hD hS hA [0, 1] rfl (by decide) [0] rfl 0 4 rfl rfl rfl) rfl rfl hl.1 rfl (lv_room (Nat.le_of_ble_eq_true rfl)) d_M_wave_151 ⟨hRc, hRs⟩) hP hD hS hA [0, 1] rfl (by decide) (fun _ => rfl) (fun g_36 H locs hg_36 hP hD hS => ?_)
          have hP : va_P (dC, dI) cl9 [(mx, .inr (4, [.int th, .long sd, .int nt, .ref ro, .ref pl, .ref vl, .int (nI f), .ref pa, .ref pr])), (pa, .inl (cL, 240, .inr (.inl g_36))), (pr, .inl (cL, 48, .inr (.inl p9)))] H := hP
          have hD : va_D A [(mx, .inr (4, [.int th, .long sd, .int nt, .ref ro, .ref pl, .ref vl, .int (nI f), .ref pa, .ref pr])), (pa, .inl (cL, 240, .inr (.inl g_36))), (pr, .inl (cL, 48, .inr (.inl p9)))] := hD
          have hg_36 : g_36 = mr_cp 6 7 g3 := hg_36.trans (ir_eq _).symm
          refine lv_aload_n hx hb d_M_wave_154 rfl (lv_at hl 0 rfl) ?_
          refine lv_bipush (v := 6) hx hb d_M_wave_155 (by decide) ?_
          refine lv_bipush (v := 8) hx hb d_M_wave_157 (by decide) ?_
          refine cs_callv (va_runV (As := [.int 6, .int 8]) (rest := []) ⟨hx, hb, hml, hown, ha⟩ (c_M_less l dC dI mx th sd nt ro pl vl f pa pr cL g_36 6 8 (by omega) (by omega) _) (cwV 2 ha g_M_M_less rfl rfl rfl (by decide +kernel) ⟨Nat.le_trans (Nat.le_of_ble_eq_true rfl) hRf, Nat.le_trans (Nat.le_of_ble_eq_true rfl) hRl⟩) (ct_preV ct_G0ok trivial hK hP hD hS hA [0, 1] rfl (by decide) [0] rfl 0 4 rfl rfl rfl) rfl rfl hl.1 rfl (lv_room (Nat.le_of_ble_eq_true rfl)) d_M_wave_159 ⟨hRc, hRs⟩) hP hD hS hA [0, 1] rfl (by decide) (fun _ => rfl) (fun g_37 H locs hg_37 hP hD hS => ?_)
          have hP : va_P (dC, dI) cl9 [(mx, .inr (4, [.int th, .long sd, .int nt, .ref ro, .ref pl, .ref vl, .int (nI f), .ref pa, .ref pr])), (pa, .inl (cL, 240, .inr (.inl g_37))), (pr, .inl (cL, 48, .inr (.inl p9)))] H := hP
          have hD : va_D A [(mx, .inr (4, [.int th, .long sd, .int nt, .ref ro, .ref pl, .ref vl, .int (nI f), .ref pa, .ref pr])), (pa, .inl (cL, 240, .inr (.inl g_37))), (pr, .inl (cL, 48, .inr (.inl p9)))] := hD
          have hg_37 : g_37 = mr_les 6 8 g_36 := hg_37.trans (ir_eq _).symm
          refine lv_aload_n hx hb d_M_wave_162 rfl (lv_at hl 0 rfl) ?_
          refine lv_bipush (v := 8) hx hb d_M_wave_163 (by decide) ?_
          refine lv_bipush (v := 6) hx hb d_M_wave_165 (by decide) ?_
          refine cs_callv (va_runV (As := [.int 8, .int 6]) (rest := []) ⟨hx, hb, hml, hown, ha⟩ (c_M_copy l dC dI mx th sd nt ro pl vl f pa pr cL g_37 8 6 (by omega) (by omega) _) (cwV 2 ha g_M_M_copy rfl rfl rfl (by decide +kernel) ⟨Nat.le_trans (Nat.le_of_ble_eq_true rfl) hRf, Nat.le_trans (Nat.le_of_ble_eq_true rfl) hRl⟩) (ct_preV ct_G0ok trivial hK hP hD hS hA [0, 1] rfl (by decide) [0] rfl 0 4 rfl rfl rfl) rfl rfl hl.1 rfl (lv_room (Nat.le_of_ble_eq_true rfl)) d_M_wave_167 ⟨hRc, hRs⟩) hP hD hS hA [0, 1] rfl (by decide) (fun _ => rfl) (fun g_38 H locs hg_38 hP hD hS => ?_)
          have hP : va_P (dC, dI) cl9 [(mx, .inr (4, [.int th, .long sd, .int nt, .ref ro, .ref pl, .ref vl, .int (nI f), .ref pa, .ref pr])), (pa, .inl (cL, 240, .inr (.inl g_38))), (pr, .inl (cL, 48, .inr (.inl p9)))] H := hP
          have hD : va_D A [(mx, .inr (4, [.int th, .long sd, .int nt, .ref ro, .ref pl, .ref vl, .int (nI f), .ref pa, .ref pr])), (pa, .inl (cL, 240, .inr (.inl g_38))), (pr, .inl (cL, 48, .inr (.inl p9)))] := hD
          have hg_38 : g_38 = mr_cp 8 6 g_37 := hg_38.trans (ir_eq _).symm
          refine lv_iload hx hb d_M_wave_170 (lv_at hl 3 rfl) ?_
          refine lv_iload_n hx hb d_M_wave_172 rfl (lv_at hl 2 rfl) ?_
          have h2 : g_38 = wv_2 (wv_g1 x f g) := by rw [hg_38, hg_37, hg_36]; rw [← hG1]; exact (if_neg hag).symm
          refine lv_icmp_eq (tgt := 180) hx hb d_M_wave_173 (by decide) (fun hs_39 => ?_) (fun hs_39 => ?_)
          · refine lv_iconst (v := 0) hx hb d_M_wave_180 (by decide) ?_
            rw [show (0 : Int32) = wv_3 c9 b3 g3 from ((if_neg hag).trans (if_pos hs_39)).symm]
            have h3 : wv_3 c9 (wv_b1 x c9 f g) (wv_g1 x f g) = wv_3 c9 b3 g3 := by rw [← hB1, ← hG1]
            have hX := wv_q (g := g) (f := f) (x := x) (by omega) hf0 hlo hhi
            rw [← h2] at hX
            refine lv_istore (lv' := [(6, .int (wv_3 c9 b3 g3)), (0, .ref mx), (1, .int x), (2, .int c9)]) hx hb d_M_wave_181 hl (by decide) rfl (fun ls hl => ?_)
            refine lv_aload_n hx hb d_M_wave_183 rfl (lv_at hl 1 rfl) ?_
            refine lv_iload_n hx hb d_M_wave_184 rfl (lv_at hl 3 rfl) ?_
            refine cs_callv (va_runV (As := [.int c9]) (rest := []) ⟨hx, hb, hml, hown, ha⟩ (d_M_quarter l dC dI mx th sd nt ro pl vl f pa pr cL g_38 p9 c9 hf hX.1 hX.2 _) (cwV 1 ha g_M_M_quarter rfl rfl rfl (by decide +kernel) ⟨Nat.le_trans (Nat.le_of_ble_eq_true rfl) hRf, Nat.le_trans (Nat.le_of_ble_eq_true rfl) hRl⟩) (ct_preV ct_G0ok trivial hK hP hD hS hA [0, 1, 2] rfl (by decide) [0] rfl 0 4 rfl rfl rfl) rfl rfl hl.1 rfl (lv_room (Nat.le_of_ble_eq_true rfl)) d_M_wave_185 ⟨hRc, hRs⟩) hP hD hS hA [0, 1, 2] rfl (by decide) (fun _ => rfl) (fun z_40 H locs hz_40 hP hD hS => ?_)
            have hP : va_P (dC, dI) cl9 [(mx, .inr (4, [.int th, .long sd, .int nt, .ref ro, .ref pl, .ref vl, .int (nI f), .ref pa, .ref pr])), (pa, .inl (cL, 240, .inr (.inl z_40.1))), (pr, .inl (cL, 48, .inr (.inl z_40.2)))] H := hP
            have hD : va_D A [(mx, .inr (4, [.int th, .long sd, .int nt, .ref ro, .ref pl, .ref vl, .int (nI f), .ref pa, .ref pr])), (pa, .inl (cL, 240, .inr (.inl z_40.1))), (pr, .inl (cL, 48, .inr (.inl z_40.2)))] := hD
            obtain ⟨g_41, p_42⟩ := z_40
            have hg_41 : g_41 = (qur f c9 g_38 p9).1 := congrArg Prod.fst hz_40
            have hp_42 : p_42 = (qur f c9 g_38 p9).2 := congrArg Prod.snd hz_40
            have hP : va_P (dC, dI) cl9 [(mx, .inr (4, [.int th, .long sd, .int nt, .ref ro, .ref pl, .ref vl, .int (nI f), .ref pa, .ref pr])), (pa, .inl (cL, 240, .inr (.inl g_41))), (pr, .inl (cL, 48, .inr (.inl p_42)))] H := hP
            have hD : va_D A [(mx, .inr (4, [.int th, .long sd, .int nt, .ref ro, .ref pl, .ref vl, .int (nI f), .ref pa, .ref pr])), (pa, .inl (cL, 240, .inr (.inl g_41))), (pr, .inl (cL, 48, .inr (.inl p_42)))] := hD
            refine lv_aload_n hx hb d_M_wave_188 rfl (lv_at hl 1 rfl) ?_
            refine lv_iconst (v := 0) hx hb d_M_wave_189 (by decide) ?_
            refine lv_iload hx hb d_M_wave_190 (lv_at hl 0 rfl) ?_
            refine cs_calll (va_runV (As := [.int 0, .int (wv_3 c9 b3 g3)]) (rest := []) ⟨hx, hb, hml, hown, ha⟩ (c_M_told l dC dI mx th sd nt ro pl vl f pa pr cL g_41 0 (wv_3 c9 b3 g3) (by omega) (by omega) _) (cwV 2 ha g_M_M_told rfl rfl rfl (by decide +kernel) ⟨Nat.le_trans (Nat.le_of_ble_eq_true rfl) hRf, Nat.le_trans (Nat.le_of_ble_eq_true rfl) hRl⟩) (ct_preV ct_G0ok trivial hK hP hD hS hA [0, 1] rfl (by decide) [0] rfl 0 4 rfl rfl rfl) rfl rfl hl.1 rfl (lv_room (Nat.le_of_ble_eq_true rfl)) d_M_wave_192 ⟨hRc, hRs⟩) hP hD hS hA [0, 1] rfl (by decide) (fun _ => rfl) (fun v_44 g_43 H locs hg_43 hP hD hS => ?_)
            have hP : va_P (dC, dI) cl9 [(mx, .inr (4, [.int th, .long sd, .int nt, .ref ro, .ref pl, .ref vl, .int (nI f), .ref pa, .ref pr])), (pa, .inl (cL, 240, .inr (.inl g_43))), (pr, .inl (cL, 48, .inr (.inl p_42)))] H := hP
            have hD : va_D A [(mx, .inr (4, [.int th, .long sd, .int nt, .ref ro, .ref pl, .ref vl, .int (nI f), .ref pa, .ref pr])), (pa, .inl (cL, 240, .inr (.inl g_43))), (pr, .inl (cL, 48, .inr (.inl p_42)))] := hD
            obtain ⟨hg_43, hv_44⟩ := hg_43
            have eP : wv_P x c9 f (g, p9) = (g_43, p_42) := by rw [hg_43, hp_42, hg_41, h2]; rfl
            have eV : wv_V x c9 f (g, p9) = v_44 := by show m_say f (wv_3 c9 (wv_b1 x c9 f g) (wv_g1 x f g)) _ = _; rw [h3, eP]; exact (hv_44).symm
            exact K _ _ _ eP trivial eV _ _ _ hP hD hS (lv_sub hl [1, 2, 3] rfl)
          · refine lv_iconst (v := 1) hx hb d_M_wave_176 (by decide) ?_
            refine lv_goto (tgt := 181) hx hb d_M_wave_177 (by decide) ?_
            rw [show (1 : Int32) = wv_3 c9 b3 g3 from ((if_neg hag).trans (if_neg hs_39)).symm]
            have h3 : wv_3 c9 (wv_b1 x c9 f g) (wv_g1 x f g) = wv_3 c9 b3 g3 := by rw [← hB1, ← hG1]
            have hX := wv_q (g := g) (f := f) (x := x) (by omega) hf0 hlo hhi
            rw [← h2] at hX
            refine lv_istore (lv' := [(6, .int (wv_3 c9 b3 g3)), (0, .ref mx), (1, .int x), (2, .int c9)]) hx hb d_M_wave_181 hl (by decide) rfl (fun ls hl => ?_)
            refine lv_aload_n hx hb d_M_wave_183 rfl (lv_at hl 1 rfl) ?_
            refine lv_iload_n hx hb d_M_wave_184 rfl (lv_at hl 3 rfl) ?_
            refine cs_callv (va_runV (As := [.int c9]) (rest := []) ⟨hx, hb, hml, hown, ha⟩ (d_M_quarter l dC dI mx th sd nt ro pl vl f pa pr cL g_38 p9 c9 hf hX.1 hX.2 _) (cwV 1 ha g_M_M_quarter rfl rfl rfl (by decide +kernel) ⟨Nat.le_trans (Nat.le_of_ble_eq_true rfl) hRf, Nat.le_trans (Nat.le_of_ble_eq_true rfl) hRl⟩) (ct_preV ct_G0ok trivial hK hP hD hS hA [0, 1, 2] rfl (by decide) [0] rfl 0 4 rfl rfl rfl) rfl rfl hl.1 rfl (lv_room (Nat.le_of_ble_eq_true rfl)) d_M_wave_185 ⟨hRc, hRs⟩) hP hD hS hA [0, 1, 2] rfl (by decide) (fun _ => rfl) (fun z_45 H locs hz_45 hP hD hS => ?_)
            have hP : va_P (dC, dI) cl9 [(mx, .inr (4, [.int th, .long sd, .int nt, .ref ro, .ref pl, .ref vl, .int (nI f), .ref pa, .ref pr])), (pa, .inl (cL, 240, .inr (.inl z_45.1))), (pr, .inl (cL, 48, .inr (.inl z_45.2)))] H := hP
            have hD : va_D A [(mx, .inr (4, [.int th, .long sd, .int nt, .ref ro, .ref pl, .ref vl, .int (nI f), .ref pa, .ref pr])), (pa, .inl (cL, 240, .inr (.inl z_45.1))), (pr, .inl (cL, 48, .inr (.inl z_45.2)))] := hD
            obtain ⟨g_46, p_47⟩ := z_45
            have hg_46 : g_46 = (qur f c9 g_38 p9).1 := congrArg Prod.fst hz_45
            have hp_47 : p_47 = (qur f c9 g_38 p9).2 := congrArg Prod.snd hz_45
            have hP : va_P (dC, dI) cl9 [(mx, .inr (4, [.int th, .long sd, .int nt, .ref ro, .ref pl, .ref vl, .int (nI f), .ref pa, .ref pr])), (pa, .inl (cL, 240, .inr (.inl g_46))), (pr, .inl (cL, 48, .inr (.inl p_47)))] H := hP
            have hD : va_D A [(mx, .inr (4, [.int th, .long sd, .int nt, .ref ro, .ref pl, .ref vl, .int (nI f), .ref pa, .ref pr])), (pa, .inl (cL, 240, .inr (.inl g_46))), (pr, .inl (cL, 48, .inr (.inl p_47)))] := hD
            refine lv_aload_n hx hb d_M_wave_188 rfl (lv_at hl 1 rfl) ?_
            refine lv_iconst (v := 0) hx hb d_M_wave_189 (by decide) ?_
            refine lv_iload hx hb d_M_wave_190 (lv_at hl 0 rfl) ?_
            refine cs_calll (va_runV (As := [.int 0, .int (wv_3 c9 b3 g3)]) (rest := []) ⟨hx, hb, hml, hown, ha⟩ (c_M_told l dC dI mx th sd nt ro pl vl f pa pr cL g_46 0 (wv_3 c9 b3 g3) (by omega) (by omega) _) (cwV 2 ha g_M_M_told rfl rfl rfl (by decide +kernel) ⟨Nat.le_trans (Nat.le_of_ble_eq_true rfl) hRf, Nat.le_trans (Nat.le_of_ble_eq_true rfl) hRl⟩) (ct_preV ct_G0ok trivial hK hP hD hS hA [0, 1] rfl (by decide) [0] rfl 0 4 rfl rfl rfl) rfl rfl hl.1 rfl (lv_room (Nat.le_of_ble_eq_true rfl)) d_M_wave_192 ⟨hRc, hRs⟩) hP hD hS hA [0, 1] rfl (by decide) (fun _ => rfl) (fun v_49 g_48 H locs hg_48 hP hD hS => ?_)
            have hP : va_P (dC, dI) cl9 [(mx, .inr (4, [.int th, .long sd, .int nt, .ref ro, .ref pl, .ref vl, .int (nI f), .ref pa, .ref pr])), (pa, .inl (cL, 240, .inr (.inl g_48))), (pr, .inl (cL, 48, .inr (.inl p_47)))] H := hP
            have hD : va_D A [(mx, .inr (4, [.int th, .long sd, .int nt, .ref ro, .ref pl, .ref vl, .int (nI f), .ref pa, .ref pr])), (pa, .inl (cL, 240, .inr (.inl g_48))), (pr, .inl (cL, 48, .inr (.inl p_47)))] := hD
            obtain ⟨hg_48, hv_49⟩ := hg_48
            have eP : wv_P x c9 f (g, p9) = (g_48, p_47) := by rw [hg_48, hp_47, hg_46, h2]; rfl
            have eV : wv_V x c9 f (g, p9) = v_49 := by show m_say f (wv_3 c9 (wv_b1 x c9 f g) (wv_g1 x f g)) _ = _; rw [h3, eP]; exact (hv_49).symm
            exact K _ _ _ eP trivial eV _ _ _ hP hD hS (lv_sub hl [1, 2, 3] rfl)
      · refine lv_iconst (v := 1) hx hb d_M_wave_95 (by decide) ?_
        refine lv_goto (tgt := 100) hx hb d_M_wave_96 (by decide) ?_
        rw [show (1 : Int32) = wv_0 x c9 from ((if_neg hs_4).trans (if_pos hs_29)).symm]
        refine lv_istore (lv' := [(6, .int (wv_0 x c9)), (0, .ref mx), (1, .int x), (2, .int c9)]) hx hb d_M_wave_100 hl (by decide) rfl (fun ls hl => ?_)
        refine lp_M_wave (mx := mx) (th := th) (sd := sd) (nt := nt) (ro := ro) (pl := pl) (vl := vl) (f := f) (pa := pa) (pr := pr) (cL := cL) (g := g_27) (p9 := p9) (x := x) (c9 := c9) (b9 := wv_0 x c9) (kk := wv_k g_27) hF hA hK (Nat.le_trans (by decide) hRf) (Nat.le_trans (by decide) hRl) hRc hRs hst.2.1 hst.2.2 (fun H locs ls hP hD hS hl => ?_) (wv_k g_27) 0 (by omega) _ _ _ hP hD hS (lv_sub hl [1, 2, 3, 0] rfl)
        obtain ⟨g3, hg3⟩ : ∃ y, y = wv_it g_27 (wv_k g_27) := ⟨_, rfl⟩
        obtain ⟨b3, hb3⟩ : ∃ y, y = wv_b (wv_0 x c9) (wv_k g_27) := ⟨_, rfl⟩
        rw [← hg3] at hP hD
        rw [← hb3] at hl
        have hG1 : g3 = wv_g1 x f g := by rw [hg3, hw0]; rfl
        have hB1 : b3 = wv_b1 x c9 f g := by rw [hb3, hw0]; rfl
        refine lv_aload_n hx hb d_M_wave_136 rfl (lv_at hl 0 rfl) ?_
        refine lv_bipush (v := 8) hx hb d_M_wave_137 (by decide) ?_
        refine lv_iconst (v := 4) hx hb d_M_wave_139 (by decide) ?_
        refine cs_calli (va_runV (As := [.int 8, .int 4]) (rest := []) ⟨hx, hb, hml, hown, ha⟩ (c_M_against l dC dI mx th sd nt ro pl vl f pa pr cL g3 8 4 (by omega) (by omega) _) (cwV 2 ha g_M_M_against rfl rfl rfl (by decide +kernel) ⟨Nat.le_trans (Nat.le_of_ble_eq_true rfl) hRf, Nat.le_trans (Nat.le_of_ble_eq_true rfl) hRl⟩) (ct_preV ct_G0ok trivial hK hP hD hS hA [0, 1] rfl (by decide) [0] rfl 0 4 rfl rfl rfl) rfl rfl hl.1 rfl (lv_room (Nat.le_of_ble_eq_true rfl)) d_M_wave_140 ⟨hRc, hRs⟩) hP hD hS hA [0, 1] rfl (by decide) (fun _ => rfl) (fun r5 u7 H locs hr5 hP hD hS => ?_)
        have hP : va_P (dC, dI) cl9 [(mx, .inr (4, [.int th, .long sd, .int nt, .ref ro, .ref pl, .ref vl, .int (nI f), .ref pa, .ref pr])), (pa, .inl (cL, 240, .inr (.inl g3))), (pr, .inl (cL, 48, .inr (.inl p9)))] H := hP
        have hD : va_D A [(mx, .inr (4, [.int th, .long sd, .int nt, .ref ro, .ref pl, .ref vl, .int (nI f), .ref pa, .ref pr])), (pa, .inl (cL, 240, .inr (.inl g3))), (pr, .inl (cL, 48, .inr (.inl p9)))] := hD
        refine lv_if_le (tgt := 183) hx hb d_M_wave_143 (by decide) (fun hs_50 => ?_) (fun hs_50 => ?_)
        · have hag : md_ag 8 4 g3 24 ≤ 0 := hr5 ▸ hs_50
          have h2 : g3 = wv_2 (wv_g1 x f g) := by rw [← hG1]; exact (if_pos hag).symm
          have h3 : wv_3 c9 (wv_b1 x c9 f g) (wv_g1 x f g) = b3 := by rw [← hB1, ← hG1]; exact if_pos hag
          have hX := wv_q (g := g) (f := f) (x := x) (by omega) hf0 hlo hhi
          rw [← h2] at hX
          refine lv_aload_n hx hb d_M_wave_183 rfl (lv_at hl 0 rfl) ?_
          refine lv_iload_n hx hb d_M_wave_184 rfl (lv_at hl 2 rfl) ?_
          refine cs_callv (va_runV (As := [.int c9]) (rest := []) ⟨hx, hb, hml, hown, ha⟩ (d_M_quarter l dC dI mx th sd nt ro pl vl f pa pr cL g3 p9 c9 hf hX.1 hX.2 _) (cwV 1 ha g_M_M_quarter rfl rfl rfl (by decide +kernel) ⟨Nat.le_trans (Nat.le_of_ble_eq_true rfl) hRf, Nat.le_trans (Nat.le_of_ble_eq_true rfl) hRl⟩) (ct_preV ct_G0ok trivial hK hP hD hS hA [0, 1, 2] rfl (by decide) [0] rfl 0 4 rfl rfl rfl) rfl rfl hl.1 rfl (lv_room (Nat.le_of_ble_eq_true rfl)) d_M_wave_185 ⟨hRc, hRs⟩) hP hD hS hA [0, 1, 2] rfl (by decide) (fun _ => rfl) (fun z_51 H locs hz_51 hP hD hS => ?_)
          have hP : va_P (dC, dI) cl9 [(mx, .inr (4, [.int th, .long sd, .int nt, .ref ro, .ref pl, .ref vl, .int (nI f), .ref pa, .ref pr])), (pa, .inl (cL, 240, .inr (.inl z_51.1))), (pr, .inl (cL, 48, .inr (.inl z_51.2)))] H := hP
          have hD : va_D A [(mx, .inr (4, [.int th, .long sd, .int nt, .ref ro, .ref pl, .ref vl, .int (nI f), .ref pa, .ref pr])), (pa, .inl (cL, 240, .inr (.inl z_51.1))), (pr, .inl (cL, 48, .inr (.inl z_51.2)))] := hD
          obtain ⟨g_52, p_53⟩ := z_51
          have hg_52 : g_52 = (qur f c9 g3 p9).1 := congrArg Prod.fst hz_51
          have hp_53 : p_53 = (qur f c9 g3 p9).2 := congrArg Prod.snd hz_51
          have hP : va_P (dC, dI) cl9 [(mx, .inr (4, [.int th, .long sd, .int nt, .ref ro, .ref pl, .ref vl, .int (nI f), .ref pa, .ref pr])), (pa, .inl (cL, 240, .inr (.inl g_52))), (pr, .inl (cL, 48, .inr (.inl p_53)))] H := hP
          have hD : va_D A [(mx, .inr (4, [.int th, .long sd, .int nt, .ref ro, .ref pl, .ref vl, .int (nI f), .ref pa, .ref pr])), (pa, .inl (cL, 240, .inr (.inl g_52))), (pr, .inl (cL, 48, .inr (.inl p_53)))] := hD
          refine lv_aload_n hx hb d_M_wave_188 rfl (lv_at hl 0 rfl) ?_
          refine lv_iconst (v := 0) hx hb d_M_wave_189 (by decide) ?_
          refine lv_iload hx hb d_M_wave_190 (lv_at hl 3 rfl) ?_
          refine cs_calll (va_runV (As := [.int 0, .int b3]) (rest := []) ⟨hx, hb, hml, hown, ha⟩ (c_M_told l dC dI mx th sd nt ro pl vl f pa pr cL g_52 0 b3 (by omega) (by omega) _) (cwV 2 ha g_M_M_told rfl rfl rfl (by decide +kernel) ⟨Nat.le_trans (Nat.le_of_ble_eq_true rfl) hRf, Nat.le_trans (Nat.le_of_ble_eq_true rfl) hRl⟩) (ct_preV ct_G0ok trivial hK hP hD hS hA [0, 1] rfl (by decide) [0] rfl 0 4 rfl rfl rfl) rfl rfl hl.1 rfl (lv_room (Nat.le_of_ble_eq_true rfl)) d_M_wave_192 ⟨hRc, hRs⟩) hP hD hS hA [0, 1] rfl (by decide) (fun _ => rfl) (fun v_55 g_54 H locs hg_54 hP hD hS => ?_)
          have hP : va_P (dC, dI) cl9 [(mx, .inr (4, [.int th, .long sd, .int nt, .ref ro, .ref pl, .ref vl, .int (nI f), .ref pa, .ref pr])), (pa, .inl (cL, 240, .inr (.inl g_54))), (pr, .inl (cL, 48, .inr (.inl p_53)))] H := hP
          have hD : va_D A [(mx, .inr (4, [.int th, .long sd, .int nt, .ref ro, .ref pl, .ref vl, .int (nI f), .ref pa, .ref pr])), (pa, .inl (cL, 240, .inr (.inl g_54))), (pr, .inl (cL, 48, .inr (.inl p_53)))] := hD
          obtain ⟨hg_54, hv_55⟩ := hg_54
          have eP : wv_P x c9 f (g, p9) = (g_54, p_53) := by rw [hg_54, hp_53, hg_52, h2]; rfl
          have eV : wv_V x c9 f (g, p9) = v_55 := by show m_say f (wv_3 c9 (wv_b1 x c9 f g) (wv_g1 x f g)) _ = _; rw [h3, eP]; exact (hv_55).symm
          exact K _ _ _ eP trivial eV _ _ _ hP hD hS (lv_sub hl [0, 1, 2] rfl)
        · have hag : ¬ md_ag 8 4 g3 24 ≤ 0 := fun q => hs_50 (hr5 ▸ q)
          refine lv_aload_n hx hb d_M_wave_146 rfl (lv_at hl 0 rfl) ?_
          refine lv_bipush (v := 6) hx hb d_M_wave_147 (by decide) ?_
          refine lv_bipush (v := 7) hx hb d_M_wave_149 (by decide) ?_
          refine cs_callv (va_runV (As := [.int 6, .int 7]) (rest := []) ⟨hx, hb, hml, hown, ha⟩ (c_M_copy l dC dI mx th sd nt ro pl vl f pa pr cL g3 6 7 (by omega) (by omega) _) (cwV 2 ha g_M_M_copy rfl rfl rfl (by decide +kernel) ⟨Nat.le_trans (Nat.le_of_ble_eq_true rfl) hRf, Nat.le_trans (Nat.le_of_ble_eq_true rfl) hRl⟩) (ct_preV ct_G0ok trivial hK hP hD hS hA [0, 1] rfl (by decide) [0] rfl 0 4 rfl rfl rfl) rfl rfl hl.1 rfl (lv_room (Nat.le_of_ble_eq_true rfl)) d_M_wave_151 ⟨hRc, hRs⟩) hP hD hS hA [0, 1] rfl (by decide) (fun _ => rfl) (fun g_56 H locs hg_56 hP hD hS => ?_)
          have hP : va_P (dC, dI) cl9 [(mx, .inr (4, [.int th, .long sd, .int nt, .ref ro, .ref pl, .ref vl, .int (nI f), .ref pa, .ref pr])), (pa, .inl (cL, 240, .inr (.inl g_56))), (pr, .inl (cL, 48, .inr (.inl p9)))] H := hP
          have hD : va_D A [(mx, .inr (4, [.int th, .long sd, .int nt, .ref ro, .ref pl, .ref vl, .int (nI f), .ref pa, .ref pr])), (pa, .inl (cL, 240, .inr (.inl g_56))), (pr, .inl (cL, 48, .inr (.inl p9)))] := hD
          have hg_56 : g_56 = mr_cp 6 7 g3 := hg_56.trans (ir_eq _).symm
          refine lv_aload_n hx hb d_M_wave_154 rfl (lv_at hl 0 rfl) ?_
          refine lv_bipush (v := 6) hx hb d_M_wave_155 (by decide) ?_
          refine lv_bipush (v := 8) hx hb d_M_wave_157 (by decide) ?_
          refine cs_callv (va_runV (As := [.int 6, .int 8]) (rest := []) ⟨hx, hb, hml, hown, ha⟩ (c_M_less l dC dI mx th sd nt ro pl vl f pa pr cL g_56 6 8 (by omega) (by omega) _) (cwV 2 ha g_M_M_less rfl rfl rfl (by decide +kernel) ⟨Nat.le_trans (Nat.le_of_ble_eq_true rfl) hRf, Nat.le_trans (Nat.le_of_ble_eq_true rfl) hRl⟩) (ct_preV ct_G0ok trivial hK hP hD hS hA [0, 1] rfl (by decide) [0] rfl 0 4 rfl rfl rfl) rfl rfl hl.1 rfl (lv_room (Nat.le_of_ble_eq_true rfl)) d_M_wave_159 ⟨hRc, hRs⟩) hP hD hS hA [0, 1] rfl (by decide) (fun _ => rfl) (fun g_57 H locs hg_57 hP hD hS => ?_)
          have hP : va_P (dC, dI) cl9 [(mx, .inr (4, [.int th, .long sd, .int nt, .ref ro, .ref pl, .ref vl, .int (nI f), .ref pa, .ref pr])), (pa, .inl (cL, 240, .inr (.inl g_57))), (pr, .inl (cL, 48, .inr (.inl p9)))] H := hP
          have hD : va_D A [(mx, .inr (4, [.int th, .long sd, .int nt, .ref ro, .ref pl, .ref vl, .int (nI f), .ref pa, .ref pr])), (pa, .inl (cL, 240, .inr (.inl g_57))), (pr, .inl (cL, 48, .inr (.inl p9)))] := hD
          have hg_57 : g_57 = mr_les 6 8 g_56 := hg_57.trans (ir_eq _).symm
          refine lv_aload_n hx hb d_M_wave_162 rfl (lv_at hl 0 rfl) ?_
          refine lv_bipush (v := 8) hx hb d_M_wave_163 (by decide) ?_
          refine lv_bipush (v := 6) hx hb d_M_wave_165 (by decide) ?_
          refine cs_callv (va_runV (As := [.int 8, .int 6]) (rest := []) ⟨hx, hb, hml, hown, ha⟩ (c_M_copy l dC dI mx th sd nt ro pl vl f pa pr cL g_57 8 6 (by omega) (by omega) _) (cwV 2 ha g_M_M_copy rfl rfl rfl (by decide +kernel) ⟨Nat.le_trans (Nat.le_of_ble_eq_true rfl) hRf, Nat.le_trans (Nat.le_of_ble_eq_true rfl) hRl⟩) (ct_preV ct_G0ok trivial hK hP hD hS hA [0, 1] rfl (by decide) [0] rfl 0 4 rfl rfl rfl) rfl rfl hl.1 rfl (lv_room (Nat.le_of_ble_eq_true rfl)) d_M_wave_167 ⟨hRc, hRs⟩) hP hD hS hA [0, 1] rfl (by decide) (fun _ => rfl) (fun g_58 H locs hg_58 hP hD hS => ?_)
          have hP : va_P (dC, dI) cl9 [(mx, .inr (4, [.int th, .long sd, .int nt, .ref ro, .ref pl, .ref vl, .int (nI f), .ref pa, .ref pr])), (pa, .inl (cL, 240, .inr (.inl g_58))), (pr, .inl (cL, 48, .inr (.inl p9)))] H := hP
          have hD : va_D A [(mx, .inr (4, [.int th, .long sd, .int nt, .ref ro, .ref pl, .ref vl, .int (nI f), .ref pa, .ref pr])), (pa, .inl (cL, 240, .inr (.inl g_58))), (pr, .inl (cL, 48, .inr (.inl p9)))] := hD
          have hg_58 : g_58 = mr_cp 8 6 g_57 := hg_58.trans (ir_eq _).symm
          refine lv_iload hx hb d_M_wave_170 (lv_at hl 3 rfl) ?_
          refine lv_iload_n hx hb d_M_wave_172 rfl (lv_at hl 2 rfl) ?_
          have h2 : g_58 = wv_2 (wv_g1 x f g) := by rw [hg_58, hg_57, hg_56]; rw [← hG1]; exact (if_neg hag).symm
          refine lv_icmp_eq (tgt := 180) hx hb d_M_wave_173 (by decide) (fun hs_59 => ?_) (fun hs_59 => ?_)
          · refine lv_iconst (v := 0) hx hb d_M_wave_180 (by decide) ?_
            rw [show (0 : Int32) = wv_3 c9 b3 g3 from ((if_neg hag).trans (if_pos hs_59)).symm]
            have h3 : wv_3 c9 (wv_b1 x c9 f g) (wv_g1 x f g) = wv_3 c9 b3 g3 := by rw [← hB1, ← hG1]
            have hX := wv_q (g := g) (f := f) (x := x) (by omega) hf0 hlo hhi
            rw [← h2] at hX
            refine lv_istore (lv' := [(6, .int (wv_3 c9 b3 g3)), (0, .ref mx), (1, .int x), (2, .int c9)]) hx hb d_M_wave_181 hl (by decide) rfl (fun ls hl => ?_)
            refine lv_aload_n hx hb d_M_wave_183 rfl (lv_at hl 1 rfl) ?_
            refine lv_iload_n hx hb d_M_wave_184 rfl (lv_at hl 3 rfl) ?_
            refine cs_callv (va_runV (As := [.int c9]) (rest := []) ⟨hx, hb, hml, hown, ha⟩ (d_M_quarter l dC dI mx th sd nt ro pl vl f pa pr cL g_58 p9 c9 hf hX.1 hX.2 _) (cwV 1 ha g_M_M_quarter rfl rfl rfl (by decide +kernel) ⟨Nat.le_trans (Nat.le_of_ble_eq_true rfl) hRf, Nat.le_trans (Nat.le_of_ble_eq_true rfl) hRl⟩) (ct_preV ct_G0ok trivial hK hP hD hS hA [0, 1, 2] rfl (by decide) [0] rfl 0 4 rfl rfl rfl) rfl rfl hl.1 rfl (lv_room (Nat.le_of_ble_eq_true rfl)) d_M_wave_185 ⟨hRc, hRs⟩) hP hD hS hA [0, 1, 2] rfl (by decide) (fun _ => rfl) (fun z_60 H locs hz_60 hP hD hS => ?_)
            have hP : va_P (dC, dI) cl9 [(mx, .inr (4, [.int th, .long sd, .int nt, .ref ro, .ref pl, .ref vl, .int (nI f), .ref pa, .ref pr])), (pa, .inl (cL, 240, .inr (.inl z_60.1))), (pr, .inl (cL, 48, .inr (.inl z_60.2)))] H := hP
            have hD : va_D A [(mx, .inr (4, [.int th, .long sd, .int nt, .ref ro, .ref pl, .ref vl, .int (nI f), .ref pa, .ref pr])), (pa, .inl (cL, 240, .inr (.inl z_60.1))), (pr, .inl (cL, 48, .inr (.inl z_60.2)))] := hD
            obtain ⟨g_61, p_62⟩ := z_60
            have hg_61 : g_61 = (qur f c9 g_58 p9).1 := congrArg Prod.fst hz_60
            have hp_62 : p_62 = (qur f c9 g_58 p9).2 := congrArg Prod.snd hz_60
            have hP : va_P (dC, dI) cl9 [(mx, .inr (4, [.int th, .long sd, .int nt, .ref ro, .ref pl, .ref vl, .int (nI f), .ref pa, .ref pr])), (pa, .inl (cL, 240, .inr (.inl g_61))), (pr, .inl (cL, 48, .inr (.inl p_62)))] H := hP
            have hD : va_D A [(mx, .inr (4, [.int th, .long sd, .int nt, .ref ro, .ref pl, .ref vl, .int (nI f), .ref pa, .ref pr])), (pa, .inl (cL, 240, .inr (.inl g_61))), (pr, .inl (cL, 48, .inr (.inl p_62)))] := hD
            refine lv_aload_n hx hb d_M_wave_188 rfl (lv_at hl 1 rfl) ?_
            refine lv_iconst (v := 0) hx hb d_M_wave_189 (by decide) ?_
            refine lv_iload hx hb d_M_wave_190 (lv_at hl 0 rfl) ?_
            refine cs_calll (va_runV (As := [.int 0, .int (wv_3 c9 b3 g3)]) (rest := []) ⟨hx, hb, hml, hown, ha⟩ (c_M_told l dC dI mx th sd nt ro pl vl f pa pr cL g_61 0 (wv_3 c9 b3 g3) (by omega) (by omega) _) (cwV 2 ha g_M_M_told rfl rfl rfl (by decide +kernel) ⟨Nat.le_trans (Nat.le_of_ble_eq_true rfl) hRf, Nat.le_trans (Nat.le_of_ble_eq_true rfl) hRl⟩) (ct_preV ct_G0ok trivial hK hP hD hS hA [0, 1] rfl (by decide) [0] rfl 0 4 rfl rfl rfl) rfl rfl hl.1 rfl (lv_room (Nat.le_of_ble_eq_true rfl)) d_M_wave_192 ⟨hRc, hRs⟩) hP hD hS hA [0, 1] rfl (by decide) (fun _ => rfl) (fun v_64 g_63 H locs hg_63 hP hD hS => ?_)
            have hP : va_P (dC, dI) cl9 [(mx, .inr (4, [.int th, .long sd, .int nt, .ref ro, .ref pl, .ref vl, .int (nI f), .ref pa, .ref pr])), (pa, .inl (cL, 240, .inr (.inl g_63))), (pr, .inl (cL, 48, .inr (.inl p_62)))] H := hP
            have hD : va_D A [(mx, .inr (4, [.int th, .long sd, .int nt, .ref ro, .ref pl, .ref vl, .int (nI f), .ref pa, .ref pr])), (pa, .inl (cL, 240, .inr (.inl g_63))), (pr, .inl (cL, 48, .inr (.inl p_62)))] := hD
            obtain ⟨hg_63, hv_64⟩ := hg_63
            have eP : wv_P x c9 f (g, p9) = (g_63, p_62) := by rw [hg_63, hp_62, hg_61, h2]; rfl
            have eV : wv_V x c9 f (g, p9) = v_64 := by show m_say f (wv_3 c9 (wv_b1 x c9 f g) (wv_g1 x f g)) _ = _; rw [h3, eP]; exact (hv_64).symm
            exact K _ _ _ eP trivial eV _ _ _ hP hD hS (lv_sub hl [1, 2, 3] rfl)
          · refine lv_iconst (v := 1) hx hb d_M_wave_176 (by decide) ?_
            refine lv_goto (tgt := 181) hx hb d_M_wave_177 (by decide) ?_
            rw [show (1 : Int32) = wv_3 c9 b3 g3 from ((if_neg hag).trans (if_neg hs_59)).symm]
            have h3 : wv_3 c9 (wv_b1 x c9 f g) (wv_g1 x f g) = wv_3 c9 b3 g3 := by rw [← hB1, ← hG1]
            have hX := wv_q (g := g) (f := f) (x := x) (by omega) hf0 hlo hhi
            rw [← h2] at hX
            refine lv_istore (lv' := [(6, .int (wv_3 c9 b3 g3)), (0, .ref mx), (1, .int x), (2, .int c9)]) hx hb d_M_wave_181 hl (by decide) rfl (fun ls hl => ?_)
            refine lv_aload_n hx hb d_M_wave_183 rfl (lv_at hl 1 rfl) ?_
            refine lv_iload_n hx hb d_M_wave_184 rfl (lv_at hl 3 rfl) ?_
            refine cs_callv (va_runV (As := [.int c9]) (rest := []) ⟨hx, hb, hml, hown, ha⟩ (d_M_quarter l dC dI mx th sd nt ro pl vl f pa pr cL g_58 p9 c9 hf hX.1 hX.2 _) (cwV 1 ha g_M_M_quarter rfl rfl rfl (by decide +kernel) ⟨Nat.le_trans (Nat.le_of_ble_eq_true rfl) hRf, Nat.le_trans (Nat.le_of_ble_eq_true rfl) hRl⟩) (ct_preV ct_G0ok trivial hK hP hD hS hA [0, 1, 2] rfl (by decide) [0] rfl 0 4 rfl rfl rfl) rfl rfl hl.1 rfl (lv_room (Nat.le_of_ble_eq_true rfl)) d_M_wave_185 ⟨hRc, hRs⟩) hP hD hS hA [0, 1, 2] rfl (by decide) (fun _ => rfl) (fun z_65 H locs hz_65 hP hD hS => ?_)
            have hP : va_P (dC, dI) cl9 [(mx, .inr (4, [.int th, .long sd, .int nt, .ref ro, .ref pl, .ref vl, .int (nI f), .ref pa, .ref pr])), (pa, .inl (cL, 240, .inr (.inl z_65.1))), (pr, .inl (cL, 48, .inr (.inl z_65.2)))] H := hP
            have hD : va_D A [(mx, .inr (4, [.int th, .long sd, .int nt, .ref ro, .ref pl, .ref vl, .int (nI f), .ref pa, .ref pr])), (pa, .inl (cL, 240, .inr (.inl z_65.1))), (pr, .inl (cL, 48, .inr (.inl z_65.2)))] := hD
            obtain ⟨g_66, p_67⟩ := z_65
            have hg_66 : g_66 = (qur f c9 g_58 p9).1 := congrArg Prod.fst hz_65
            have hp_67 : p_67 = (qur f c9 g_58 p9).2 := congrArg Prod.snd hz_65
            have hP : va_P (dC, dI) cl9 [(mx, .inr (4, [.int th, .long sd, .int nt, .ref ro, .ref pl, .ref vl, .int (nI f), .ref pa, .ref pr])), (pa, .inl (cL, 240, .inr (.inl g_66))), (pr, .inl (cL, 48, .inr (.inl p_67)))] H := hP
            have hD : va_D A [(mx, .inr (4, [.int th, .long sd, .int nt, .ref ro, .ref pl, .ref vl, .int (nI f), .ref pa, .ref pr])), (pa, .inl (cL, 240, .inr (.inl g_66))), (pr, .inl (cL, 48, .inr (.inl p_67)))] := hD
            refine lv_aload_n hx hb d_M_wave_188 rfl (lv_at hl 1 rfl) ?_
            refine lv_iconst (v := 0) hx hb d_M_wave_189 (by decide) ?_
            refine lv_iload hx hb d_M_wave_190 (lv_at hl 0 rfl) ?_
            refine cs_calll (va_runV (As := [.int 0, .int (wv_3 c9 b3 g3)]) (rest := []) ⟨hx, hb, hml, hown, ha⟩ (c_M_told l dC dI mx th sd nt ro pl vl f pa pr cL g_66 0 (wv_3 c9 b3 g3) (by omega) (by omega) _) (cwV 2 ha g_M_M_told rfl rfl rfl (by decide +kernel) ⟨Nat.le_trans (Nat.le_of_ble_eq_true rfl) hRf, Nat.le_trans (Nat.le_of_ble_eq_true rfl) hRl⟩) (ct_preV ct_G0ok trivial hK hP hD hS hA [0, 1] rfl (by decide) [0] rfl 0 4 rfl rfl rfl) rfl rfl hl.1 rfl (lv_room (Nat.le_of_ble_eq_true rfl)) d_M_wave_192 ⟨hRc, hRs⟩) hP hD hS hA [0, 1] rfl (by decide) (fun _ => rfl) (fun v_69 g_68 H locs hg_68 hP hD hS => ?_)
            have hP : va_P (dC, dI) cl9 [(mx, .inr (4, [.int th, .long sd, .int nt, .ref ro, .ref pl, .ref vl, .int (nI f), .ref pa, .ref pr])), (pa, .inl (cL, 240, .inr (.inl g_68))), (pr, .inl (cL, 48, .inr (.inl p_67)))] H := hP
            have hD : va_D A [(mx, .inr (4, [.int th, .long sd, .int nt, .ref ro, .ref pl, .ref vl, .int (nI f), .ref pa, .ref pr])), (pa, .inl (cL, 240, .inr (.inl g_68))), (pr, .inl (cL, 48, .inr (.inl p_67)))] := hD
            obtain ⟨hg_68, hv_69⟩ := hg_68
            have eP : wv_P x c9 f (g, p9) = (g_68, p_67) := by rw [hg_68, hp_67, hg_66, h2]; rfl
            have eV : wv_V x c9 f (g, p9) = v_69 := by show m_say f (wv_3 c9 (wv_b1 x c9 f g) (wv_g1 x f g)) _ = _; rw [h3, eP]; exact (hv_69).symm
            exact K _ _ _ eP trivial eV _ _ _ hP hD hS (lv_sub hl [1, 2, 3] rfl)
set_option maxHeartbeats 4000000 in
set_option maxRecDepth 100000 in
/-- wave(x, cosine) -/
theorem c_M_wave (l : Launch) (dC : Nat → ClassId) (dI : Nat → Nat → Nat) (mx : Nat) (th : Int32) (sd : Int64) (nt : Int32) (ro : Nat) (pl : Nat) (vl : Nat) (f : Nat) (pa : Nat) (pr : Nat) (cL : ClassId) (g : Nat → Int64) (p9 : Nat → Int64) (x c9 : Int32) (hf9 : f ≤ 20) (sz : Nat) : ct_L l y_M_wave w_M_wave { frames := 4, cells := 0, slots := 0, locals := 140 } (dC, dI) cl9 [(cL, .long)] ct_G0 [.ref mx, .int x, .int c9] [(mx, .inr (4, [.int th, .long sd, .int nt, .ref ro, .ref pl, .ref vl, .int (nI f), .ref pa, .ref pr])), (pa, .inl (cL, 240, .inr (.inl g))), (pr, .inl (cL, 48, .inr (.inl p9)))] sz (S := Int32 × Nat × S2) (fun v9 (u : Int32 × Nat × S2) => u.2.1 ≤ 20 ∧ u.1 = th_wv x ∧ v9 = vl_wv x c9 (g, p9)) (fun _ : Int32 × Nat × S2 => [(cL, .long)]) (fun u : Int32 × Nat × S2 => [(mx, .inr (4, [.int u.1, .long sd, .int nt, .ref ro, .ref pl, .ref vl, .int (nI u.2.1), .ref pa, .ref pr])), (pa, .inl (cL, 240, .inr (.inl u.2.2.1))), (pr, .inl (cL, 48, .inr (.inl u.2.2.2)))]) 0 0 := by
  refine ct_of (Qf := fun A => va_Ql (fun v9 (u : Int32 × Nat × S2) => u.2.1 ≤ 20 ∧ u.1 = th_wv x ∧ v9 = vl_wv x c9 (g, p9)) (ct_B (S := Int32 × Nat × S2) (dC, dI) cl9 (fun _ : Int32 × Nat × S2 => [(cL, .long)]) A (fun u : Int32 × Nat × S2 => [(mx, .inr (4, [.int u.1, .long sd, .int nt, .ref ro, .ref pl, .ref vl, .int (nI u.2.1), .ref pa, .ref pr])), (pa, .inl (cL, 240, .inr (.inl u.2.2.1))), (pr, .inl (cL, 48, .inr (.inl u.2.2.2)))])) A) (cc := b_M_wave) (maxL := 7) (ret := ((some .long))) (by decide) rfl (Nat.le_of_ble_eq_true rfl) ?_
  intro p e s m below meth c A ls hF hA hP hK hD hG hS hl
  obtain ⟨hx, hb, hr, hml, hts, hown, hlocks, hnm⟩ := id hF
  have hown : s.vm.findClass R_M = some m.cls := hown
  have ha : ∀ w ∈ al_M, w.before [.ref mx, .int x, .int c9].toArray s = true := fun w h => hts w (List.mem_cons_of_mem _ h)
  have hl : lv_has ls 7 [(0, .ref mx), (1, .int x), (2, .int c9)] := hl
  refine lv_aload_n hx hb d_M_wave_0 rfl (lv_at hl 0 rfl) ?_
  refine lv_iload_n hx hb d_M_wave_1 rfl (lv_at hl 1 rfl) ?_
  refine lv_ldc (v := (-100000000)) hx hb hown (ha _ wm_M_93) d_M_wave_2 ?_
  refine lv_icmp_lt (tgt := 13) hx hb d_M_wave_4 (by decide) (fun hc => ?_) (fun hc => ?_)
  · refine lv_iconst (v := 1) hx hb d_M_wave_13 (by decide) ?_
    refine lv_goto (tgt := 18) hx hb d_M_wave_14 (by decide) ?_
    refine va_put (D := (dC, dI)) (ci := 4) (v := .int 1) (ty := .int) (C := R_M) (T := F_M) (N := 9) hx hb ha ui_M ft_M tk_M nm_M hown hK hP hD hS 0 rfl rfl 0 (by decide) (ha _ wm_M_5) (fun _ h9 => h9) rfl (by decide +kernel) rfl rfl (Nat.le_of_ble_eq_true rfl) d_M_wave_18 (fun H locs hP hD hS => ?_)
    have hP : va_P (dC, dI) cl9 [(mx, .inr (4, [.int 1, .long sd, .int nt, .ref ro, .ref pl, .ref vl, .int (nI f), .ref pa, .ref pr])), (pa, .inl (cL, 240, .inr (.inl g))), (pr, .inl (cL, 48, .inr (.inl p9)))] H := hP
    have hD : va_D A [(mx, .inr (4, [.int 1, .long sd, .int nt, .ref ro, .ref pl, .ref vl, .int (nI f), .ref pa, .ref pr])), (pa, .inl (cL, 240, .inr (.inl g))), (pr, .inl (cL, 48, .inr (.inl p9)))] := hD
    refine lv_aload_n hx hb d_M_wave_21 rfl (lv_at hl 0 rfl) ?_
    refine va_get (D := (dC, dI)) (ci := 4) (v := .int 1) (C := R_M) (T := F_M) (N := 9) hx hb ha ui_M hown hK hP 0 rfl rfl 0 (by decide) (ha _ wm_M_5) (fun _ h9 => h9) rfl d_M_wave_22 ?_
    refine lv_if_le (tgt := 30) hx hb d_M_wave_25 (by decide) (fun hq => ?_) (fun hq => ?_)
    · exact absurd hq (by decide)
    · refine lv_lconst (v := 0) hx hb d_M_wave_28 (by decide) ?_
      exact ct_lret hF d_M_wave_29 (1, f, g, p9) ⟨hf9, (if_pos hc).symm, (if_pos hc).symm⟩ (hP.sub [0, 1, 2] rfl) (hD.sub [0, 1, 2] (by decide) rfl) hK hS
  · refine lv_iload_n hx hb d_M_wave_7 rfl (lv_at hl 1 rfl) ?_
    refine lv_ldc (v := 100000000) hx hb hown (ha _ wm_M_94) d_M_wave_8 ?_
    refine lv_icmp_le (tgt := 17) hx hb d_M_wave_10 (by decide) (fun hd => ?_) (fun hd => ?_)
    · refine lv_iconst (v := 0) hx hb d_M_wave_17 (by decide) ?_
      refine va_put (D := (dC, dI)) (ci := 4) (v := .int 0) (ty := .int) (C := R_M) (T := F_M) (N := 9) hx hb ha ui_M ft_M tk_M nm_M hown hK hP hD hS 0 rfl rfl 0 (by decide) (ha _ wm_M_5) (fun _ h9 => h9) rfl (by decide +kernel) rfl rfl (Nat.le_of_ble_eq_true rfl) d_M_wave_18 (fun H locs hP hD hS => ?_)
      have hP : va_P (dC, dI) cl9 [(mx, .inr (4, [.int 0, .long sd, .int nt, .ref ro, .ref pl, .ref vl, .int (nI f), .ref pa, .ref pr])), (pa, .inl (cL, 240, .inr (.inl g))), (pr, .inl (cL, 48, .inr (.inl p9)))] H := hP
      have hD : va_D A [(mx, .inr (4, [.int 0, .long sd, .int nt, .ref ro, .ref pl, .ref vl, .int (nI f), .ref pa, .ref pr])), (pa, .inl (cL, 240, .inr (.inl g))), (pr, .inl (cL, 48, .inr (.inl p9)))] := hD
      refine lv_aload_n hx hb d_M_wave_21 rfl (lv_at hl 0 rfl) ?_
      refine va_get (D := (dC, dI)) (ci := 4) (v := .int 0) (C := R_M) (T := F_M) (N := 9) hx hb ha ui_M hown hK hP 0 rfl rfl 0 (by decide) (ha _ wm_M_5) (fun _ h9 => h9) rfl d_M_wave_22 ?_
      refine lv_if_le (tgt := 30) hx hb d_M_wave_25 (by decide) (fun hq => ?_) (fun hq => ?_)
      · refine lv_iload_n hx hb d_M_wave_30 rfl (lv_at hl 1 rfl) ?_
        refine lv_if_ne (tgt := 46) hx hb d_M_wave_31 (by decide) (fun hx0 => ?_) (fun hx0 => ?_)
        · refine lv_lconst (v := 0) hx hb d_M_wave_46 (by decide) ?_
          refine lv_lstore_n (lv' := [(3, .long 0), (0, .ref mx), (1, .int x), (2, .int c9)]) hx hb d_M_wave_47 rfl hl (by decide) rfl (fun ls hl => ?_)
          refine lv_iconst (v := 1) hx hb d_M_wave_48 (by decide) ?_
          refine lv_istore (lv' := [(5, .int 1), (3, .long 0), (0, .ref mx), (1, .int x), (2, .int c9)]) hx hb d_M_wave_49 hl (by decide) rfl (fun ls hl => ?_)
          refine lv_aload_n hx hb d_M_wave_51 rfl (lv_at hl 2 rfl) ?_
          refine lv_bipush (v := 11) hx hb d_M_wave_52 (by decide) ?_
          refine va_put (D := (dC, dI)) (ci := 4) (v := .int 11) (ty := .int) (C := R_M) (T := F_M) (N := 9) hx hb ha ui_M ft_M tk_M nm_M hown hK hP hD hS 0 rfl rfl 6 (by decide) (ha _ wm_M_11) (fun _ h9 => h9) rfl (by decide +kernel) rfl rfl (Nat.le_of_ble_eq_true rfl) d_M_wave_54 (fun H locs hP hD hS => ?_)
          have hP : va_P (dC, dI) cl9 [(mx, .inr (4, [.int 0, .long sd, .int nt, .ref ro, .ref pl, .ref vl, .int 11, .ref pa, .ref pr])), (pa, .inl (cL, 240, .inr (.inl g))), (pr, .inl (cL, 48, .inr (.inl p9)))] H := hP
          have hD : va_D A [(mx, .inr (4, [.int 0, .long sd, .int nt, .ref ro, .ref pl, .ref vl, .int 11, .ref pa, .ref pr])), (pa, .inl (cL, 240, .inr (.inl g))), (pr, .inl (cL, 48, .inr (.inl p9)))] := hD
          have hP : va_P (dC, dI) cl9 [(mx, .inr (4, [.int 0, .long sd, .int nt, .ref ro, .ref pl, .ref vl, .int (nI 11), .ref pa, .ref pr])), (pa, .inl (cL, 240, .inr (.inl g))), (pr, .inl (cL, 48, .inr (.inl p9)))] H := hP
          have hD : va_D A [(mx, .inr (4, [.int 0, .long sd, .int nt, .ref ro, .ref pl, .ref vl, .int (nI 11), .ref pa, .ref pr])), (pa, .inl (cL, 240, .inr (.inl g))), (pr, .inl (cL, 48, .inr (.inl p9)))] := hD
          refine lv_iload hx hb d_M_wave_57 (lv_at hl 0 rfl) ?_
          refine lv_if_eq (tgt := 212) hx hb d_M_wave_59 (by decide) (fun hq1 => ?_) (fun hq1 => ?_)
          · exact absurd hq1 (by decide)
          · refine ps_M_wave (R := { frames := 4, cells := 0, slots := 0, locals := 140 }) (cells := 0) (slots := 0) (mx := mx) (th := 0) (sd := sd) (nt := nt) (ro := ro) (pl := pl) (vl := vl) (f := 11) (pa := pa) (pr := pr) (cL := cL) (g := g) (p9 := p9) (x := x) (c9 := c9) hF hA hK (Nat.le_of_ble_eq_true rfl) (Nat.le_of_ble_eq_true rfl) (Nat.le_of_ble_eq_true rfl) (Nat.le_of_ble_eq_true rfl) (by decide) (by decide) hc hd (fun g6 p6 v6 eP6 ep6 eV6 H locs ls hP hD hS hl => ?_) _ _ _ hP hD hS (lv_sub hl [2, 3, 4] rfl)
            refine lv_lstore_n (lv' := [(3, .long v6), (0, .ref mx), (1, .int x), (2, .int c9)]) hx hb d_M_wave_195 rfl hl (by decide) rfl (fun ls hl => ?_)
            refine lv_aload_n hx hb d_M_wave_196 rfl (lv_at hl 1 rfl) ?_
            refine lv_iconst (v := 0) hx hb d_M_wave_197 (by decide) ?_
            refine cs_calli (va_runV (As := [.int 0]) (rest := []) ⟨hx, hb, hml, hown, ha⟩ (c_M_isOpen l dC dI mx 0 sd nt ro pl vl pa pr cL g6 0 (by omega) _) (cwV 1 ha g_M_M_isOpen rfl rfl rfl (by decide +kernel) ⟨Nat.le_of_ble_eq_true rfl, Nat.le_of_ble_eq_true rfl⟩) (ct_preV ct_G0ok trivial hK hP hD hS hA [0, 1] rfl (by decide) [0] rfl 0 4 rfl rfl rfl) rfl rfl hl.1 rfl (lv_room (Nat.le_of_ble_eq_true rfl)) d_M_wave_198 ⟨Nat.le_of_ble_eq_true rfl, Nat.le_of_ble_eq_true rfl⟩) hP hD hS hA [0, 1] rfl (by decide) (fun _ => rfl) (fun o_70 u7 H locs ho_70 hP hD hS => ?_)
            have hP : va_P (dC, dI) cl9 [(mx, .inr (4, [.int 0, .long sd, .int nt, .ref ro, .ref pl, .ref vl, .int (nI 11), .ref pa, .ref pr])), (pa, .inl (cL, 240, .inr (.inl g6))), (pr, .inl (cL, 48, .inr (.inl p6)))] H := hP
            have hD : va_D A [(mx, .inr (4, [.int 0, .long sd, .int nt, .ref ro, .ref pl, .ref vl, .int (nI 11), .ref pa, .ref pr])), (pa, .inl (cL, 240, .inr (.inl g6))), (pr, .inl (cL, 48, .inr (.inl p6)))] := hD
            refine lv_istore (lv' := [(5, .int o_70), (3, .long v6), (0, .ref mx), (1, .int x), (2, .int c9)]) hx hb d_M_wave_201 hl (by decide) rfl (fun ls hl => ?_)
            refine lv_aload_n hx hb d_M_wave_203 rfl (lv_at hl 2 rfl) ?_
            refine lv_bipush (v := 17) hx hb d_M_wave_204 (by decide) ?_
            refine va_put (D := (dC, dI)) (ci := 4) (v := .int 17) (ty := .int) (C := R_M) (T := F_M) (N := 9) hx hb ha ui_M ft_M tk_M nm_M hown hK hP hD hS 0 rfl rfl 6 (by decide) (ha _ wm_M_11) (fun _ h9 => h9) rfl (by decide +kernel) rfl rfl (Nat.le_of_ble_eq_true rfl) d_M_wave_206 (fun H locs hP hD hS => ?_)
            have hP : va_P (dC, dI) cl9 [(mx, .inr (4, [.int 0, .long sd, .int nt, .ref ro, .ref pl, .ref vl, .int 17, .ref pa, .ref pr])), (pa, .inl (cL, 240, .inr (.inl g6))), (pr, .inl (cL, 48, .inr (.inl p6)))] H := hP
            have hD : va_D A [(mx, .inr (4, [.int 0, .long sd, .int nt, .ref ro, .ref pl, .ref vl, .int 17, .ref pa, .ref pr])), (pa, .inl (cL, 240, .inr (.inl g6))), (pr, .inl (cL, 48, .inr (.inl p6)))] := hD
            have hP : va_P (dC, dI) cl9 [(mx, .inr (4, [.int 0, .long sd, .int nt, .ref ro, .ref pl, .ref vl, .int (nI 17), .ref pa, .ref pr])), (pa, .inl (cL, 240, .inr (.inl g6))), (pr, .inl (cL, 48, .inr (.inl p6)))] H := hP
            have hD : va_D A [(mx, .inr (4, [.int 0, .long sd, .int nt, .ref ro, .ref pl, .ref vl, .int (nI 17), .ref pa, .ref pr])), (pa, .inl (cL, 240, .inr (.inl g6))), (pr, .inl (cL, 48, .inr (.inl p6)))] := hD
            refine lv_goto (tgt := 57) hx hb d_M_wave_209 (by decide) ?_
            refine lv_iload hx hb d_M_wave_57 (lv_at hl 0 rfl) ?_
            refine lv_if_eq (tgt := 212) hx hb d_M_wave_59 (by decide) (fun ho => ?_) (fun ho => ?_)
            · refine lv_lload_n hx hb d_M_wave_212 rfl (lv_at hl 1 rfl) ?_
              exact ct_lret hF d_M_wave_213 (0, 17, g6, p6) ⟨(show (17 : Nat) ≤ 20 by decide), ((if_neg hc).trans (if_pos hd)).symm, ((if_neg hc).trans ((if_pos hd).trans ((if_neg hx0).trans ((if_pos (by rw [eP6]; exact ho_70.symm.trans ho)).trans eV6)))).symm⟩ (hP.sub [0, 1, 2] rfl) (hD.sub [0, 1, 2] (by decide) rfl) hK hS
            · have ho2 : ¬ md_op 0 g6 = 0 := fun q => ho (ho_70.trans q)
              refine ps_M_wave (R := { frames := 4, cells := 0, slots := 0, locals := 140 }) (cells := 0) (slots := 0) (mx := mx) (th := 0) (sd := sd) (nt := nt) (ro := ro) (pl := pl) (vl := vl) (f := 17) (pa := pa) (pr := pr) (cL := cL) (g := g6) (p9 := p6) (x := x) (c9 := c9) hF hA hK (Nat.le_of_ble_eq_true rfl) (Nat.le_of_ble_eq_true rfl) (Nat.le_of_ble_eq_true rfl) (Nat.le_of_ble_eq_true rfl) (by decide) (by decide) hc hd (fun g7 p7 v7 eP7 ep7 eV7 H locs ls hP hD hS hl => ?_) _ _ _ hP hD hS (lv_sub hl [2, 3, 4] rfl)
              refine lv_lstore_n (lv' := [(3, .long v7), (0, .ref mx), (1, .int x), (2, .int c9)]) hx hb d_M_wave_195 rfl hl (by decide) rfl (fun ls hl => ?_)
              refine lv_aload_n hx hb d_M_wave_196 rfl (lv_at hl 1 rfl) ?_
              refine lv_iconst (v := 0) hx hb d_M_wave_197 (by decide) ?_
              refine cs_calli (va_runV (As := [.int 0]) (rest := []) ⟨hx, hb, hml, hown, ha⟩ (c_M_isOpen17 l dC dI mx 0 sd nt ro pl vl pa pr cL g7 0 (by omega) _) (cwV 1 ha g_M_M_isOpen rfl rfl rfl (by decide +kernel) ⟨Nat.le_of_ble_eq_true rfl, Nat.le_of_ble_eq_true rfl⟩) (ct_preV ct_G0ok trivial hK hP hD hS hA [0, 1] rfl (by decide) [0] rfl 0 4 rfl rfl rfl) rfl rfl hl.1 rfl (lv_room (Nat.le_of_ble_eq_true rfl)) d_M_wave_198 ⟨Nat.le_of_ble_eq_true rfl, Nat.le_of_ble_eq_true rfl⟩) hP hD hS hA [0, 1] rfl (by decide) (fun _ => rfl) (fun o_71 u7 H locs ho_71 hP hD hS => ?_)
              have hP : va_P (dC, dI) cl9 [(mx, .inr (4, [.int 0, .long sd, .int nt, .ref ro, .ref pl, .ref vl, .int (nI 17), .ref pa, .ref pr])), (pa, .inl (cL, 240, .inr (.inl g7))), (pr, .inl (cL, 48, .inr (.inl p7)))] H := hP
              have hD : va_D A [(mx, .inr (4, [.int 0, .long sd, .int nt, .ref ro, .ref pl, .ref vl, .int (nI 17), .ref pa, .ref pr])), (pa, .inl (cL, 240, .inr (.inl g7))), (pr, .inl (cL, 48, .inr (.inl p7)))] := hD
              refine lv_istore (lv' := [(5, .int o_71), (3, .long v7), (0, .ref mx), (1, .int x), (2, .int c9)]) hx hb d_M_wave_201 hl (by decide) rfl (fun ls hl => ?_)
              refine lv_aload_n hx hb d_M_wave_203 rfl (lv_at hl 2 rfl) ?_
              refine lv_bipush (v := 17) hx hb d_M_wave_204 (by decide) ?_
              refine va_put (D := (dC, dI)) (ci := 4) (v := .int 17) (ty := .int) (C := R_M) (T := F_M) (N := 9) hx hb ha ui_M ft_M tk_M nm_M hown hK hP hD hS 0 rfl rfl 6 (by decide) (ha _ wm_M_11) (fun _ h9 => h9) rfl (by decide +kernel) rfl rfl (Nat.le_of_ble_eq_true rfl) d_M_wave_206 (fun H locs hP hD hS => ?_)
              have hP : va_P (dC, dI) cl9 [(mx, .inr (4, [.int 0, .long sd, .int nt, .ref ro, .ref pl, .ref vl, .int 17, .ref pa, .ref pr])), (pa, .inl (cL, 240, .inr (.inl g7))), (pr, .inl (cL, 48, .inr (.inl p7)))] H := hP
              have hD : va_D A [(mx, .inr (4, [.int 0, .long sd, .int nt, .ref ro, .ref pl, .ref vl, .int 17, .ref pa, .ref pr])), (pa, .inl (cL, 240, .inr (.inl g7))), (pr, .inl (cL, 48, .inr (.inl p7)))] := hD
              have hP : va_P (dC, dI) cl9 [(mx, .inr (4, [.int 0, .long sd, .int nt, .ref ro, .ref pl, .ref vl, .int (nI 17), .ref pa, .ref pr])), (pa, .inl (cL, 240, .inr (.inl g7))), (pr, .inl (cL, 48, .inr (.inl p7)))] H := hP
              have hD : va_D A [(mx, .inr (4, [.int 0, .long sd, .int nt, .ref ro, .ref pl, .ref vl, .int (nI 17), .ref pa, .ref pr])), (pa, .inl (cL, 240, .inr (.inl g7))), (pr, .inl (cL, 48, .inr (.inl p7)))] := hD
              refine lv_goto (tgt := 57) hx hb d_M_wave_209 (by decide) ?_
              refine lv_iload hx hb d_M_wave_57 (lv_at hl 0 rfl) ?_
              refine lv_if_eq (tgt := 212) hx hb d_M_wave_59 (by decide) (fun ho3 => ?_) (fun ho3 => ?_)
              · refine lv_lload_n hx hb d_M_wave_212 rfl (lv_at hl 1 rfl) ?_
                exact ct_lret hF d_M_wave_213 (0, 17, g7, p7) ⟨(show (17 : Nat) ≤ 20 by decide), ((if_neg hc).trans (if_pos hd)).symm, ((if_neg hc).trans ((if_pos hd).trans ((if_neg hx0).trans ((if_neg (by rw [eP6]; exact ho2)).trans (by rw [eP6]; exact eV7))))).symm⟩ (hP.sub [0, 1, 2] rfl) (hD.sub [0, 1, 2] (by decide) rfl) hK hS
              · exact absurd ho_71 ho3
        · refine lv_iload_n hx hb d_M_wave_34 rfl (lv_at hl 2 rfl) ?_
          refine lv_if_eq (tgt := 44) hx hb d_M_wave_35 (by decide) (fun he => ?_) (fun he => ?_)
          · refine lv_lconst (v := 0) hx hb d_M_wave_44 (by decide) ?_
            exact ct_lret hF d_M_wave_45 (0, f, g, p9) ⟨hf9, ((if_neg hc).trans (if_pos hd)).symm, ((if_neg hc).trans ((if_pos hd).trans ((if_pos hx0).trans (if_pos he)))).symm⟩ (hP.sub [0, 1, 2] rfl) (hD.sub [0, 1, 2] (by decide) rfl) hK hS
          · refine lv_ldc2 (v := 1000000000) hx hb hown (ha _ wm_M_31) d_M_wave_38 ?_
            refine lv_goto (tgt := 45) hx hb d_M_wave_41 (by decide) ?_
            exact ct_lret hF d_M_wave_45 (0, f, g, p9) ⟨hf9, ((if_neg hc).trans (if_pos hd)).symm, ((if_neg hc).trans ((if_pos hd).trans ((if_pos hx0).trans (if_neg he)))).symm⟩ (hP.sub [0, 1, 2] rfl) (hD.sub [0, 1, 2] (by decide) rfl) hK hS
      · exact absurd (by decide) hq
    · refine lv_iconst (v := 1) hx hb d_M_wave_13 (by decide) ?_
      refine lv_goto (tgt := 18) hx hb d_M_wave_14 (by decide) ?_
      refine va_put (D := (dC, dI)) (ci := 4) (v := .int 1) (ty := .int) (C := R_M) (T := F_M) (N := 9) hx hb ha ui_M ft_M tk_M nm_M hown hK hP hD hS 0 rfl rfl 0 (by decide) (ha _ wm_M_5) (fun _ h9 => h9) rfl (by decide +kernel) rfl rfl (Nat.le_of_ble_eq_true rfl) d_M_wave_18 (fun H locs hP hD hS => ?_)
      have hP : va_P (dC, dI) cl9 [(mx, .inr (4, [.int 1, .long sd, .int nt, .ref ro, .ref pl, .ref vl, .int (nI f), .ref pa, .ref pr])), (pa, .inl (cL, 240, .inr (.inl g))), (pr, .inl (cL, 48, .inr (.inl p9)))] H := hP
      have hD : va_D A [(mx, .inr (4, [.int 1, .long sd, .int nt, .ref ro, .ref pl, .ref vl, .int (nI f), .ref pa, .ref pr])), (pa, .inl (cL, 240, .inr (.inl g))), (pr, .inl (cL, 48, .inr (.inl p9)))] := hD
      refine lv_aload_n hx hb d_M_wave_21 rfl (lv_at hl 0 rfl) ?_
      refine va_get (D := (dC, dI)) (ci := 4) (v := .int 1) (C := R_M) (T := F_M) (N := 9) hx hb ha ui_M hown hK hP 0 rfl rfl 0 (by decide) (ha _ wm_M_5) (fun _ h9 => h9) rfl d_M_wave_22 ?_
      refine lv_if_le (tgt := 30) hx hb d_M_wave_25 (by decide) (fun hq => ?_) (fun hq => ?_)
      · exact absurd hq (by decide)
      · refine lv_lconst (v := 0) hx hb d_M_wave_28 (by decide) ?_
        exact ct_lret hF d_M_wave_29 (1, f, g, p9) ⟨hf9, ((if_neg hc).trans (if_neg hd)).symm, ((if_neg hc).trans (if_neg hd)).symm⟩ (hP.sub [0, 1, 2] rfl) (hD.sub [0, 1, 2] (by decide) rfl) hK hS
set_option maxHeartbeats 4000000 in
set_option maxRecDepth 100000 in
/-- sine(x) -/
theorem c_M_sine (l : Launch) (dC : Nat → ClassId) (dI : Nat → Nat → Nat) (mx : Nat) (th : Int32) (sd : Int64) (nt : Int32) (ro : Nat) (pl : Nat) (vl : Nat) (f : Nat) (pa : Nat) (pr : Nat) (cL : ClassId) (g : Nat → Int64) (p9 : Nat → Int64) (x : Int32) (hf9 : f ≤ 20) (sz : Nat) : ct_L l y_M_sine w_M_sine { frames := 5, cells := 0, slots := 0, locals := 170 } (dC, dI) cl9 [(cL, .long)] ct_G0 [.ref mx, .int x] [(mx, .inr (4, [.int th, .long sd, .int nt, .ref ro, .ref pl, .ref vl, .int (nI f), .ref pa, .ref pr])), (pa, .inl (cL, 240, .inr (.inl g))), (pr, .inl (cL, 48, .inr (.inl p9)))] sz (S := Int32 × Nat × S2) (fun v9 (u : Int32 × Nat × S2) => u.2.1 ≤ 20 ∧ u.1 = th_wv x ∧ v9 = vl_wv x 0 (g, p9)) (fun _ : Int32 × Nat × S2 => [(cL, .long)]) (fun u : Int32 × Nat × S2 => [(mx, .inr (4, [.int u.1, .long sd, .int nt, .ref ro, .ref pl, .ref vl, .int (nI u.2.1), .ref pa, .ref pr])), (pa, .inl (cL, 240, .inr (.inl u.2.2.1))), (pr, .inl (cL, 48, .inr (.inl u.2.2.2)))]) 0 0 := by
  refine ct_of (Qf := fun A => va_Ql (fun v9 (u : Int32 × Nat × S2) => u.2.1 ≤ 20 ∧ u.1 = th_wv x ∧ v9 = vl_wv x 0 (g, p9)) (ct_B (S := Int32 × Nat × S2) (dC, dI) cl9 (fun _ : Int32 × Nat × S2 => [(cL, .long)]) A (fun u : Int32 × Nat × S2 => [(mx, .inr (4, [.int u.1, .long sd, .int nt, .ref ro, .ref pl, .ref vl, .int (nI u.2.1), .ref pa, .ref pr])), (pa, .inl (cL, 240, .inr (.inl u.2.2.1))), (pr, .inl (cL, 48, .inr (.inl u.2.2.2)))])) A) (cc := b_M_sine) (maxL := 2) (ret := ((some .long))) (by decide) rfl (Nat.le_of_ble_eq_true rfl) ?_
  intro p e s m below meth c A ls hF hA hP hK hD hG hS hl
  obtain ⟨hx, hb, hr, hml, hts, hown, hlocks, hnm⟩ := id hF
  have hown : s.vm.findClass R_M = some m.cls := hown
  have ha : ∀ w ∈ al_M, w.before [.ref mx, .int x].toArray s = true := fun w h => hts w (List.mem_cons_of_mem _ h)
  have hl : lv_has ls 2 [(0, .ref mx), (1, .int x)] := hl
  refine lv_aload_n hx hb d_M_sine_0 rfl (lv_at hl 0 rfl) ?_
  refine lv_iload_n hx hb d_M_sine_1 rfl (lv_at hl 1 rfl) ?_
  refine lv_iconst (v := 0) hx hb d_M_sine_2 (by decide) ?_
  refine cs_calll (va_runV (As := [.int x, .int 0]) (rest := []) ⟨hx, hb, hml, hown, ha⟩ (c_M_wave l dC dI mx th sd nt ro pl vl f pa pr cL g p9 x 0 hf9 _) (cwV 2 ha g_M_M_wave rfl rfl rfl (by decide +kernel) ⟨Nat.le_of_ble_eq_true rfl, Nat.le_of_ble_eq_true rfl⟩) (ct_preV ct_G0ok trivial hK hP hD hS hA [0, 1, 2] rfl (by decide) [0] rfl 0 4 rfl rfl rfl) rfl rfl hl.1 rfl (lv_room (Nat.le_of_ble_eq_true rfl)) d_M_sine_3 ⟨Nat.le_of_ble_eq_true rfl, Nat.le_of_ble_eq_true rfl⟩) hP hD hS hA [0, 1, 2] rfl (by decide) (fun _ => rfl) (fun v9 u_1 H locs hu_1 hP hD hS => ?_)
  have hP : va_P (dC, dI) cl9 [(mx, .inr (4, [.int u_1.1, .long sd, .int nt, .ref ro, .ref pl, .ref vl, .int (nI u_1.2.1), .ref pa, .ref pr])), (pa, .inl (cL, 240, .inr (.inl u_1.2.2.1))), (pr, .inl (cL, 48, .inr (.inl u_1.2.2.2)))] H := hP
  have hD : va_D A [(mx, .inr (4, [.int u_1.1, .long sd, .int nt, .ref ro, .ref pl, .ref vl, .int (nI u_1.2.1), .ref pa, .ref pr])), (pa, .inl (cL, 240, .inr (.inl u_1.2.2.1))), (pr, .inl (cL, 48, .inr (.inl u_1.2.2.2)))] := hD
  obtain ⟨t_2, f_3, g_4, p_5⟩ := u_1
  obtain ⟨hf_3, ht_2, hv9⟩ := hu_1
  have hf_3 : f_3 ≤ 20 := hf_3
  have hP : va_P (dC, dI) cl9 [(mx, .inr (4, [.int t_2, .long sd, .int nt, .ref ro, .ref pl, .ref vl, .int (nI f_3), .ref pa, .ref pr])), (pa, .inl (cL, 240, .inr (.inl g_4))), (pr, .inl (cL, 48, .inr (.inl p_5)))] H := hP
  have hD : va_D A [(mx, .inr (4, [.int t_2, .long sd, .int nt, .ref ro, .ref pl, .ref vl, .int (nI f_3), .ref pa, .ref pr])), (pa, .inl (cL, 240, .inr (.inl g_4))), (pr, .inl (cL, 48, .inr (.inl p_5)))] := hD
  exact ct_lret hF d_M_sine_6 (t_2, f_3, g_4, p_5) ⟨hf_3, ht_2, hv9⟩ (hP.sub [0, 1, 2] rfl) (hD.sub [0, 1, 2] (by decide) rfl) hK hS
set_option maxHeartbeats 4000000 in
set_option maxRecDepth 100000 in
/-- cosine(x) -/
theorem c_M_cosine (l : Launch) (dC : Nat → ClassId) (dI : Nat → Nat → Nat) (mx : Nat) (th : Int32) (sd : Int64) (nt : Int32) (ro : Nat) (pl : Nat) (vl : Nat) (f : Nat) (pa : Nat) (pr : Nat) (cL : ClassId) (g : Nat → Int64) (p9 : Nat → Int64) (x : Int32) (hf9 : f ≤ 20) (sz : Nat) : ct_L l y_M_cosine w_M_cosine { frames := 5, cells := 0, slots := 0, locals := 170 } (dC, dI) cl9 [(cL, .long)] ct_G0 [.ref mx, .int x] [(mx, .inr (4, [.int th, .long sd, .int nt, .ref ro, .ref pl, .ref vl, .int (nI f), .ref pa, .ref pr])), (pa, .inl (cL, 240, .inr (.inl g))), (pr, .inl (cL, 48, .inr (.inl p9)))] sz (S := Int32 × Nat × S2) (fun v9 (u : Int32 × Nat × S2) => u.2.1 ≤ 20 ∧ u.1 = th_wv x ∧ v9 = vl_wv x 1 (g, p9)) (fun _ : Int32 × Nat × S2 => [(cL, .long)]) (fun u : Int32 × Nat × S2 => [(mx, .inr (4, [.int u.1, .long sd, .int nt, .ref ro, .ref pl, .ref vl, .int (nI u.2.1), .ref pa, .ref pr])), (pa, .inl (cL, 240, .inr (.inl u.2.2.1))), (pr, .inl (cL, 48, .inr (.inl u.2.2.2)))]) 0 0 := by
  refine ct_of (Qf := fun A => va_Ql (fun v9 (u : Int32 × Nat × S2) => u.2.1 ≤ 20 ∧ u.1 = th_wv x ∧ v9 = vl_wv x 1 (g, p9)) (ct_B (S := Int32 × Nat × S2) (dC, dI) cl9 (fun _ : Int32 × Nat × S2 => [(cL, .long)]) A (fun u : Int32 × Nat × S2 => [(mx, .inr (4, [.int u.1, .long sd, .int nt, .ref ro, .ref pl, .ref vl, .int (nI u.2.1), .ref pa, .ref pr])), (pa, .inl (cL, 240, .inr (.inl u.2.2.1))), (pr, .inl (cL, 48, .inr (.inl u.2.2.2)))])) A) (cc := b_M_cosine) (maxL := 2) (ret := ((some .long))) (by decide) rfl (Nat.le_of_ble_eq_true rfl) ?_
  intro p e s m below meth c A ls hF hA hP hK hD hG hS hl
  obtain ⟨hx, hb, hr, hml, hts, hown, hlocks, hnm⟩ := id hF
  have hown : s.vm.findClass R_M = some m.cls := hown
  have ha : ∀ w ∈ al_M, w.before [.ref mx, .int x].toArray s = true := fun w h => hts w (List.mem_cons_of_mem _ h)
  have hl : lv_has ls 2 [(0, .ref mx), (1, .int x)] := hl
  refine lv_aload_n hx hb d_M_cosine_0 rfl (lv_at hl 0 rfl) ?_
  refine lv_iload_n hx hb d_M_cosine_1 rfl (lv_at hl 1 rfl) ?_
  refine lv_iconst (v := 1) hx hb d_M_cosine_2 (by decide) ?_
  refine cs_calll (va_runV (As := [.int x, .int 1]) (rest := []) ⟨hx, hb, hml, hown, ha⟩ (c_M_wave l dC dI mx th sd nt ro pl vl f pa pr cL g p9 x 1 hf9 _) (cwV 2 ha g_M_M_wave rfl rfl rfl (by decide +kernel) ⟨Nat.le_of_ble_eq_true rfl, Nat.le_of_ble_eq_true rfl⟩) (ct_preV ct_G0ok trivial hK hP hD hS hA [0, 1, 2] rfl (by decide) [0] rfl 0 4 rfl rfl rfl) rfl rfl hl.1 rfl (lv_room (Nat.le_of_ble_eq_true rfl)) d_M_cosine_3 ⟨Nat.le_of_ble_eq_true rfl, Nat.le_of_ble_eq_true rfl⟩) hP hD hS hA [0, 1, 2] rfl (by decide) (fun _ => rfl) (fun v9 u_1 H locs hu_1 hP hD hS => ?_)
  have hP : va_P (dC, dI) cl9 [(mx, .inr (4, [.int u_1.1, .long sd, .int nt, .ref ro, .ref pl, .ref vl, .int (nI u_1.2.1), .ref pa, .ref pr])), (pa, .inl (cL, 240, .inr (.inl u_1.2.2.1))), (pr, .inl (cL, 48, .inr (.inl u_1.2.2.2)))] H := hP
  have hD : va_D A [(mx, .inr (4, [.int u_1.1, .long sd, .int nt, .ref ro, .ref pl, .ref vl, .int (nI u_1.2.1), .ref pa, .ref pr])), (pa, .inl (cL, 240, .inr (.inl u_1.2.2.1))), (pr, .inl (cL, 48, .inr (.inl u_1.2.2.2)))] := hD
  obtain ⟨t_2, f_3, g_4, p_5⟩ := u_1
  obtain ⟨hf_3, ht_2, hv9⟩ := hu_1
  have hf_3 : f_3 ≤ 20 := hf_3
  have hP : va_P (dC, dI) cl9 [(mx, .inr (4, [.int t_2, .long sd, .int nt, .ref ro, .ref pl, .ref vl, .int (nI f_3), .ref pa, .ref pr])), (pa, .inl (cL, 240, .inr (.inl g_4))), (pr, .inl (cL, 48, .inr (.inl p_5)))] H := hP
  have hD : va_D A [(mx, .inr (4, [.int t_2, .long sd, .int nt, .ref ro, .ref pl, .ref vl, .int (nI f_3), .ref pa, .ref pr])), (pa, .inl (cL, 240, .inr (.inl g_4))), (pr, .inl (cL, 48, .inr (.inl p_5)))] := hD
  exact ct_lret hF d_M_cosine_6 (t_2, f_3, g_4, p_5) ⟨hf_3, ht_2, hv9⟩ (hP.sub [0, 1, 2] rfl) (hD.sub [0, 1, 2] (by decide) rfl) hK hS
