set_option maxHeartbeats 4000000 in
set_option maxRecDepth 100000 in
/-- FIRST -/
theorem lp_M_root1 {p : Program} {l : Launch} {e : Env} {R : Room} {s : State} {m : MethodId} {args : Array Value} {below : List Frame} {meth : Method} {c : Code} {Q : State → Prop} {A : Nat → Prop} {cells slots : Nat} {dC : Nat → ClassId} {dI : Nat → Nat → Nat} {mx : Nat} {th : Int32} {sd : Int64} {nt : Int32} {ro : Nat} {pl : Nat} {vl : Nat} {pa : Nat} {pr : Nat} {cL : ClassId} {g : Nat → Int64} {p9 : Nat → Int64} {v : Int64} {j : Nat} (hF : ct_F p s m meth c b_M_root ((some .long)) 11 w_M_root y_M_root args) (hA : ∀ q, s.heap.size ≤ q → A q) (hK : va_K (dC, dI) cl9 [(cL, .long)] s) (hRf : 1 ≤ R.frames) (hRl : 40 ≤ R.locals) (hRc : cells ≤ R.cells) (hRs : slots ≤ R.slots) (hj : j ≤ 4)
    (K : ∀ (H : Heap) (locs : List Loc) (ls : Array Slot), va_P (dC, dI) cl9 [(mx, .inr (4, [.int th, .long sd, .int nt, .ref ro, .ref pl, .ref vl, .int (nI 0), .ref pa, .ref pr])), (pa, .inl (cL, 240, .inr (.inl (rt_1 v g j)))), (pr, .inl (cL, 48, .inr (.inl p9)))] H → va_D A [(mx, .inr (4, [.int th, .long sd, .int nt, .ref ro, .ref pl, .ref vl, .int (nI 0), .ref pa, .ref pr])), (pa, .inl (cL, 240, .inr (.inl (rt_1 v g j)))), (pr, .inl (cL, 48, .inr (.inl p9)))] → va_S A s.heap H locs → lv_has ls 11 [(0, .ref mx), (3, .int (nI (j + 1))), (4, .int (nI j))] → W p l e R s m args below meth c H locs cells slots Q (F0 m 80 ls [])) :
    ∀ (n9 i : Nat), i + n9 = j → ∀ (H : Heap) (locs : List Loc) (ls : Array Slot), va_P (dC, dI) cl9 [(mx, .inr (4, [.int th, .long sd, .int nt, .ref ro, .ref pl, .ref vl, .int (nI 0), .ref pa, .ref pr])), (pa, .inl (cL, 240, .inr (.inl (rt_1 v g i)))), (pr, .inl (cL, 48, .inr (.inl p9)))] H → va_D A [(mx, .inr (4, [.int th, .long sd, .int nt, .ref ro, .ref pl, .ref vl, .int (nI 0), .ref pa, .ref pr])), (pa, .inl (cL, 240, .inr (.inl (rt_1 v g i)))), (pr, .inl (cL, 48, .inr (.inl p9)))] → va_S A s.heap H locs → lv_has ls 11 [(0, .ref mx), (3, .int (nI (j + 1))), (4, .int (nI i))] → W p l e R s m args below meth c H locs cells slots Q (F0 m 57 ls []) := by
  obtain ⟨hx, hb, hr, hml, hts, hown, hlocks, hnm⟩ := id hF
  have hown : s.vm.findClass R_M = some m.cls := hown
  have ha : ∀ w ∈ al_M, w.before args s = true := fun w h => hts w (List.mem_cons_of_mem _ h)
  intro n9
  induction n9 with
  | zero =>
    intro i hi H locs ls hP hD hS hl
    obtain rfl : j = i := by omega
    refine lv_iload hx hb d_M_root_57 (lv_at hl 2 rfl) ?_
    refine lv_iload_n hx hb d_M_root_59 rfl (lv_at hl 1 rfl) ?_
    refine lv_iconst (v := 1) hx hb d_M_root_60 (by decide) ?_
    refine lv_isub hx hb d_M_root_61 ?_
    rw [nI_s1 j]
    refine lv_icmp_ge (tgt := 80) hx hb d_M_root_62 (by decide) (fun hc => ?_) (fun hc => ?_)
    · exact K _ _ _ hP hD hS (lv_sub hl [0, 1, 2] rfl)
    · exact absurd (show nI j ≤ nI j from nI_le (by omega) (by omega)) hc
  | succ n9 ih =>
    intro i hi H locs ls hP hD hS hl
    have hlt : i < j := by omega
    refine lv_iload hx hb d_M_root_57 (lv_at hl 2 rfl) ?_
    refine lv_iload_n hx hb d_M_root_59 rfl (lv_at hl 1 rfl) ?_
    refine lv_iconst (v := 1) hx hb d_M_root_60 (by decide) ?_
    refine lv_isub hx hb d_M_root_61 ?_
    rw [nI_s1 j]
    refine lv_icmp_ge (tgt := 80) hx hb d_M_root_62 (by decide) (fun hc => ?_) (fun hc => ?_)
    · exact absurd (show nI j ≤ nI i from hc) (nI_ge (by omega) (by omega))
    · refine lv_aload_n hx hb d_M_root_65 rfl (lv_at hl 0 rfl) ?_
      refine lv_bipush (v := 6) hx hb d_M_root_66 (by decide) ?_
      refine lv_ldc2 (v := 1000000000) hx hb hown (ha _ wm_M_31) d_M_root_68 ?_
      refine cs_callv (va_runV (As := [.int 6, .long 1000000000]) (rest := []) ⟨hx, hb, hml, hown, ha⟩ (c_M_times l dC dI mx th sd nt ro pl vl 0 pa pr cL (rt_1 v g i) 6 1000000000 (by omega) _) (cwV 2 ha g_M_M_times rfl rfl rfl (by decide +kernel) ⟨Nat.le_trans (Nat.le_of_ble_eq_true rfl) hRf, Nat.le_trans (Nat.le_of_ble_eq_true rfl) hRl⟩) (ct_preV ct_G0ok trivial hK hP hD hS hA [0, 1] rfl (by decide) [0] rfl 0 4 rfl rfl rfl) rfl rfl hl.1 rfl (lv_room (Nat.le_of_ble_eq_true rfl)) d_M_root_71 ⟨hRc, hRs⟩) hP hD hS hA [0, 1] rfl (by decide) (fun _ => rfl) (fun g_1 H locs hg_1 hP hD hS => ?_)
      have hP : va_P (dC, dI) cl9 [(mx, .inr (4, [.int th, .long sd, .int nt, .ref ro, .ref pl, .ref vl, .int (nI 0), .ref pa, .ref pr])), (pa, .inl (cL, 240, .inr (.inl g_1))), (pr, .inl (cL, 48, .inr (.inl p9)))] H := hP
      have hD : va_D A [(mx, .inr (4, [.int th, .long sd, .int nt, .ref ro, .ref pl, .ref vl, .int (nI 0), .ref pa, .ref pr])), (pa, .inl (cL, 240, .inr (.inl g_1))), (pr, .inl (cL, 48, .inr (.inl p9)))] := hD
      have hg_1 : g_1 = mr_tim 6 1000000000 (rt_1 v g i) := hg_1.trans (ir_eq _).symm
      refine lv_iinc (v := (nI (i + 1))) (lv' := [(4, .int (nI (i + 1))), (0, .ref mx), (3, .int (nI (j + 1)))]) hx hb d_M_root_74 hl (k := 2) rfl (by exact nI_1 i) (by decide) rfl (fun ls hl => ?_)
      refine lv_goto (tgt := 57) hx hb d_M_root_77 (by decide) ?_
      have e9 : rt_1 v g (i + 1) = g_1 := (hg_1).symm
      exact ih (i + 1) (by omega) _ _ _ (by rw [e9]; exact hP) (by rw [e9]; exact hD) hS (lv_sub hl [1, 2, 0] rfl)
set_option maxHeartbeats 4000000 in
set_option maxRecDepth 100000 in
/-- middle to the k -/
theorem lp_M_root3 {p : Program} {l : Launch} {e : Env} {R : Room} {s : State} {m : MethodId} {args : Array Value} {below : List Frame} {meth : Method} {c : Code} {Q : State → Prop} {A : Nat → Prop} {cells slots : Nat} {dC : Nat → ClassId} {dI : Nat → Nat → Nat} {mx : Nat} {th : Int32} {sd : Int64} {nt : Int32} {ro : Nat} {pl : Nat} {vl : Nat} {pa : Nat} {pr : Nat} {cL : ClassId} {g : Nat → Int64} {p9 : Nat → Int64} {m9 : Int64} {k : Nat} {l9 : Int64} {h9 : Int64} (hF : ct_F p s m meth c b_M_root ((some .long)) 11 w_M_root y_M_root args) (hA : ∀ q, s.heap.size ≤ q → A q) (hK : va_K (dC, dI) cl9 [(cL, .long)] s) (hRf : 1 ≤ R.frames) (hRl : 40 ≤ R.locals) (hRc : cells ≤ R.cells) (hRs : slots ≤ R.slots) (hk5 : k ≤ 5)
    (K : ∀ (H : Heap) (locs : List Loc) (ls : Array Slot), va_P (dC, dI) cl9 [(mx, .inr (4, [.int th, .long sd, .int nt, .ref ro, .ref pl, .ref vl, .int (nI 0), .ref pa, .ref pr])), (pa, .inl (cL, 240, .inr (.inl (rt_3 m9 g k)))), (pr, .inl (cL, 48, .inr (.inl p9)))] H → va_D A [(mx, .inr (4, [.int th, .long sd, .int nt, .ref ro, .ref pl, .ref vl, .int (nI 0), .ref pa, .ref pr])), (pa, .inl (cL, 240, .inr (.inl (rt_3 m9 g k)))), (pr, .inl (cL, 48, .inr (.inl p9)))] → va_S A s.heap H locs → lv_has ls 11 [(0, .ref mx), (3, .int (nI k)), (4, .long l9), (6, .long h9), (8, .long m9), (10, .int (nI k))] → W p l e R s m args below meth c H locs cells slots Q (F0 m 146 ls [])) :
    ∀ (n9 i : Nat), i + n9 = k → ∀ (H : Heap) (locs : List Loc) (ls : Array Slot), va_P (dC, dI) cl9 [(mx, .inr (4, [.int th, .long sd, .int nt, .ref ro, .ref pl, .ref vl, .int (nI 0), .ref pa, .ref pr])), (pa, .inl (cL, 240, .inr (.inl (rt_3 m9 g i)))), (pr, .inl (cL, 48, .inr (.inl p9)))] H → va_D A [(mx, .inr (4, [.int th, .long sd, .int nt, .ref ro, .ref pl, .ref vl, .int (nI 0), .ref pa, .ref pr])), (pa, .inl (cL, 240, .inr (.inl (rt_3 m9 g i)))), (pr, .inl (cL, 48, .inr (.inl p9)))] → va_S A s.heap H locs → lv_has ls 11 [(0, .ref mx), (3, .int (nI k)), (4, .long l9), (6, .long h9), (8, .long m9), (10, .int (nI i))] → W p l e R s m args below meth c H locs cells slots Q (F0 m 127 ls []) := by
  obtain ⟨hx, hb, hr, hml, hts, hown, hlocks, hnm⟩ := id hF
  have hown : s.vm.findClass R_M = some m.cls := hown
  have ha : ∀ w ∈ al_M, w.before args s = true := fun w h => hts w (List.mem_cons_of_mem _ h)
  intro n9
  induction n9 with
  | zero =>
    intro i hi H locs ls hP hD hS hl
    obtain rfl : k = i := by omega
    refine lv_iload hx hb d_M_root_127 (lv_at hl 5 rfl) ?_
    refine lv_iload_n hx hb d_M_root_129 rfl (lv_at hl 1 rfl) ?_
    refine lv_icmp_ge (tgt := 146) hx hb d_M_root_130 (by decide) (fun hc => ?_) (fun hc => ?_)
    · exact K _ _ _ hP hD hS (lv_sub hl [0, 1, 2, 3, 4, 5] rfl)
    · exact absurd (show nI k ≤ nI k from nI_le (by omega) (by omega)) hc
  | succ n9 ih =>
    intro i hi H locs ls hP hD hS hl
    have hlt : i < k := by omega
    refine lv_iload hx hb d_M_root_127 (lv_at hl 5 rfl) ?_
    refine lv_iload_n hx hb d_M_root_129 rfl (lv_at hl 1 rfl) ?_
    refine lv_icmp_ge (tgt := 146) hx hb d_M_root_130 (by decide) (fun hc => ?_) (fun hc => ?_)
    · exact absurd (show nI k ≤ nI i from hc) (nI_ge (by omega) (by omega))
    · refine lv_aload_n hx hb d_M_root_133 rfl (lv_at hl 0 rfl) ?_
      refine lv_iconst (v := 0) hx hb d_M_root_134 (by decide) ?_
      refine lv_lload hx hb d_M_root_135 (lv_at hl 4 rfl) ?_
      refine cs_callv (va_runV (As := [.int 0, .long m9]) (rest := []) ⟨hx, hb, hml, hown, ha⟩ (c_M_times l dC dI mx th sd nt ro pl vl 0 pa pr cL (rt_3 m9 g i) 0 m9 (by omega) _) (cwV 2 ha g_M_M_times rfl rfl rfl (by decide +kernel) ⟨Nat.le_trans (Nat.le_of_ble_eq_true rfl) hRf, Nat.le_trans (Nat.le_of_ble_eq_true rfl) hRl⟩) (ct_preV ct_G0ok trivial hK hP hD hS hA [0, 1] rfl (by decide) [0] rfl 0 4 rfl rfl rfl) rfl rfl hl.1 rfl (lv_room (Nat.le_of_ble_eq_true rfl)) d_M_root_137 ⟨hRc, hRs⟩) hP hD hS hA [0, 1] rfl (by decide) (fun _ => rfl) (fun g_2 H locs hg_2 hP hD hS => ?_)
      have hP : va_P (dC, dI) cl9 [(mx, .inr (4, [.int th, .long sd, .int nt, .ref ro, .ref pl, .ref vl, .int (nI 0), .ref pa, .ref pr])), (pa, .inl (cL, 240, .inr (.inl g_2))), (pr, .inl (cL, 48, .inr (.inl p9)))] H := hP
      have hD : va_D A [(mx, .inr (4, [.int th, .long sd, .int nt, .ref ro, .ref pl, .ref vl, .int (nI 0), .ref pa, .ref pr])), (pa, .inl (cL, 240, .inr (.inl g_2))), (pr, .inl (cL, 48, .inr (.inl p9)))] := hD
      have hg_2 : g_2 = mr_tim 0 m9 (rt_3 m9 g i) := hg_2.trans (ir_eq _).symm
      refine lv_iinc (v := (nI (i + 1))) (lv' := [(10, .int (nI (i + 1))), (0, .ref mx), (3, .int (nI k)), (4, .long l9), (6, .long h9), (8, .long m9)]) hx hb d_M_root_140 hl (k := 5) rfl (by exact nI_1 i) (by decide) rfl (fun ls hl => ?_)
      refine lv_goto (tgt := 127) hx hb d_M_root_143 (by decide) ?_
      have e9 : rt_3 m9 g (i + 1) = g_2 := (hg_2).symm
      exact ih (i + 1) (by omega) _ _ _ (by rw [e9]; exact hP) (by rw [e9]; exact hD) hS (lv_sub hl [1, 2, 3, 4, 5, 0] rfl)
set_option maxHeartbeats 4000000 in
set_option maxRecDepth 100000 in
/-- the search -/
theorem lp_M_root {p : Program} {l : Launch} {e : Env} {R : Room} {s : State} {m : MethodId} {args : Array Value} {below : List Frame} {meth : Method} {c : Code} {Q : State → Prop} {A : Nat → Prop} {cells slots : Nat} {dC : Nat → ClassId} {dI : Nat → Nat → Nat} {mx : Nat} {th : Int32} {sd : Int64} {nt : Int32} {ro : Nat} {pl : Nat} {vl : Nat} {pa : Nat} {pr : Nat} {cL : ClassId} {p9 : Nat → Int64} {k : Nat} {F : Int} {rr : Int64} (hF : ct_F p s m meth c b_M_root ((some .long)) 11 w_M_root y_M_root args) (hA : ∀ q, s.heap.size ≤ q → A q) (hK : va_K (dC, dI) cl9 [(cL, .long)] s) (hRf : 1 ≤ R.frames) (hRl : 40 ≤ R.locals) (hRc : cells ≤ R.cells) (hRs : slots ≤ R.slots) (hk5 : k ≤ 5)
    (K : ∀ (lo : Int64) (g : Nat → Int64), lo = rr → ∀ (H : Heap) (locs : List Loc) (ls : Array Slot), va_P (dC, dI) cl9 [(mx, .inr (4, [.int th, .long sd, .int nt, .ref ro, .ref pl, .ref vl, .int (nI 0), .ref pa, .ref pr])), (pa, .inl (cL, 240, .inr (.inl g))), (pr, .inl (cL, 48, .inr (.inl p9)))] H → va_D A [(mx, .inr (4, [.int th, .long sd, .int nt, .ref ro, .ref pl, .ref vl, .int (nI 0), .ref pa, .ref pr])), (pa, .inl (cL, 240, .inr (.inl g))), (pr, .inl (cL, 48, .inr (.inl p9)))] → va_S A s.heap H locs → lv_has ls 11 [(4, .long lo)] → W p l e R s m args below meth c H locs cells slots Q (F0 m 170 ls [])) :
    ∀ (n9 : Nat) (lo hi : Int64) (g : Nat → Int64), ok 6 g → vv 6 g 24 = F → 0 ≤ lo.toInt → hi.toInt ≤ 1000000000001 → lo.toInt < hi.toInt → hi.toInt - lo.toInt ≤ 2 ^ n9 → rr = rts F k n9 lo hi → ∀ (H : Heap) (locs : List Loc) (ls : Array Slot), va_P (dC, dI) cl9 [(mx, .inr (4, [.int th, .long sd, .int nt, .ref ro, .ref pl, .ref vl, .int (nI 0), .ref pa, .ref pr])), (pa, .inl (cL, 240, .inr (.inl g))), (pr, .inl (cL, 48, .inr (.inl p9)))] H → va_D A [(mx, .inr (4, [.int th, .long sd, .int nt, .ref ro, .ref pl, .ref vl, .int (nI 0), .ref pa, .ref pr])), (pa, .inl (cL, 240, .inr (.inl g))), (pr, .inl (cL, 48, .inr (.inl p9)))] → va_S A s.heap H locs → lv_has ls 11 [(0, .ref mx), (3, .int (nI k)), (4, .long lo), (6, .long hi)] → W p l e R s m args below meth c H locs cells slots Q (F0 m 97 ls []) := by
  obtain ⟨hx, hb, hr, hml, hts, hown, hlocks, hnm⟩ := id hF
  have hown : s.vm.findClass R_M = some m.cls := hown
  have ha : ∀ w ∈ al_M, w.before args s = true := fun w h => hts w (List.mem_cons_of_mem _ h)
  intro n9
  induction n9 with
  | zero =>
    intro lo hi g o6 e6 b1 b2 b3 b4 hR H locs ls hP hD hS hl
    refine lv_lload hx hb d_M_root_97 (lv_at hl 3 rfl) ?_
    refine lv_lload hx hb d_M_root_99 (lv_at hl 2 rfl) ?_
    refine lv_lsub hx hb d_M_root_101 ?_
    refine lv_lconst (v := 1) hx hb d_M_root_102 (by decide) ?_
    refine ct_jle (tgt := 170) hx hb d_M_root_103 d_M_root_104 (by decide) (fun hc => ?_) (fun hc => ?_)
    · exact K lo g (hR.trans (rts_1 F k _ hc)).symm _ _ _ hP hD hS (lv_sub hl [2] rfl)
    · exact absurd (rm_end b1 b2 b3 b4) hc
  | succ n9 ih =>
    intro lo hi g o6 e6 b1 b2 b3 b4 hR H locs ls hP hD hS hl
    refine lv_lload hx hb d_M_root_97 (lv_at hl 3 rfl) ?_
    refine lv_lload hx hb d_M_root_99 (lv_at hl 2 rfl) ?_
    refine lv_lsub hx hb d_M_root_101 ?_
    refine lv_lconst (v := 1) hx hb d_M_root_102 (by decide) ?_
    refine ct_jle (tgt := 170) hx hb d_M_root_103 d_M_root_104 (by decide) (fun hc => ?_) (fun hc => ?_)
    · exact K lo g (hR.trans (rts_1 F k _ hc)).symm _ _ _ hP hD hS (lv_sub hl [2] rfl)
    · obtain ⟨d1, d2, d3, d4⟩ := rm_step b1 b2 b3 b4 hc
      refine lv_lload hx hb d_M_root_107 (lv_at hl 2 rfl) ?_
      refine lv_lload hx hb d_M_root_109 (lv_at hl 3 rfl) ?_
      refine lv_ladd hx hb d_M_root_111 ?_
      refine lv_ldc2 (v := 2) hx hb hown (ha _ wm_M_82) d_M_root_112 ?_
      refine lv_ldiv hx hb d_M_root_115 (by decide) ?_
      refine lv_lstore (lv' := [(8, .long ((lo + hi) / 2)), (0, .ref mx), (3, .int (nI k)), (4, .long lo), (6, .long hi)]) hx hb d_M_root_116 hl (by decide) rfl (fun ls hl => ?_)
      refine lv_aload_n hx hb d_M_root_118 rfl (lv_at hl 1 rfl) ?_
      refine lv_iconst (v := 0) hx hb d_M_root_119 (by decide) ?_
      refine lv_lconst (v := 1) hx hb d_M_root_120 (by decide) ?_
      refine cs_callv (va_runV (As := [.int 0, .long 1]) (rest := []) ⟨hx, hb, hml, hown, ha⟩ (c_M_whole l dC dI mx th sd nt ro pl vl 0 pa pr cL g 0 1 (by omega) (by omega) _) (cwV 2 ha g_M_M_whole rfl rfl rfl (by decide +kernel) ⟨Nat.le_trans (Nat.le_of_ble_eq_true rfl) hRf, Nat.le_trans (Nat.le_of_ble_eq_true rfl) hRl⟩) (ct_preV ct_G0ok trivial hK hP hD hS hA [0, 1] rfl (by decide) [0] rfl 0 4 rfl rfl rfl) rfl rfl hl.1 rfl (lv_room (Nat.le_of_ble_eq_true rfl)) d_M_root_121 ⟨hRc, hRs⟩) hP hD hS hA [0, 1] rfl (by decide) (fun _ => rfl) (fun g_3 H locs hg_3 hP hD hS => ?_)
      have hP : va_P (dC, dI) cl9 [(mx, .inr (4, [.int th, .long sd, .int nt, .ref ro, .ref pl, .ref vl, .int (nI 0), .ref pa, .ref pr])), (pa, .inl (cL, 240, .inr (.inl g_3))), (pr, .inl (cL, 48, .inr (.inl p9)))] H := hP
      have hD : va_D A [(mx, .inr (4, [.int th, .long sd, .int nt, .ref ro, .ref pl, .ref vl, .int (nI 0), .ref pa, .ref pr])), (pa, .inl (cL, 240, .inr (.inl g_3))), (pr, .inl (cL, 48, .inr (.inl p9)))] := hD
      have hg_3 : g_3 = mr_wh 0 0 1 g := hg_3.trans (ir_eq _).symm
      refine lv_iconst (v := 0) hx hb d_M_root_124 (by decide) ?_
      refine lv_istore (lv' := [(10, .int 0), (8, .long ((lo + hi) / 2)), (0, .ref mx), (3, .int (nI k)), (4, .long lo), (6, .long hi)]) hx hb d_M_root_125 hl (by decide) rfl (fun ls hl => ?_)
      have e9 : rt_3 ((lo + hi) / 2) g 0 = g_3 := (hg_3).symm
      refine lp_M_root3 (mx := mx) (th := th) (sd := sd) (nt := nt) (ro := ro) (pl := pl) (vl := vl) (pa := pa) (pr := pr) (cL := cL) (g := g) (p9 := p9) (m9 := ((lo + hi) / 2)) (k := k) (l9 := lo) (h9 := hi) hF hA hK hRf hRl hRc hRs hk5 (fun H locs ls hP hD hS hl => ?_) k 0 (by omega) _ _ _ (by rw [e9]; exact hP) (by rw [e9]; exact hD) hS (lv_sub hl [2, 3, 4, 5, 1, 0] rfl)
      obtain ⟨g3, hg3⟩ : ∃ y, y = rt_3 ((lo + hi) / 2) g k := ⟨_, rfl⟩
      rw [← hg3] at hP hD
      obtain ⟨q1, q2, q3⟩ := rt_cmp (m := ((lo + hi) / 2)) (by omega) (by omega) hk5 o6 e6
      rw [← hg3] at q1 q2 q3
      refine lv_aload_n hx hb d_M_root_146 rfl (lv_at hl 0 rfl) ?_
      refine lv_iconst (v := 0) hx hb d_M_root_147 (by decide) ?_
      refine lv_bipush (v := 6) hx hb d_M_root_148 (by decide) ?_
      refine cs_calli (va_runV (As := [.int 0, .int 6]) (rest := []) ⟨hx, hb, hml, hown, ha⟩ (c_M_against l dC dI mx th sd nt ro pl vl 0 pa pr cL g3 0 6 (by omega) (by omega) _) (cwV 2 ha g_M_M_against rfl rfl rfl (by decide +kernel) ⟨Nat.le_trans (Nat.le_of_ble_eq_true rfl) hRf, Nat.le_trans (Nat.le_of_ble_eq_true rfl) hRl⟩) (ct_preV ct_G0ok trivial hK hP hD hS hA [0, 1] rfl (by decide) [0] rfl 0 4 rfl rfl rfl) rfl rfl hl.1 rfl (lv_room (Nat.le_of_ble_eq_true rfl)) d_M_root_150 ⟨hRc, hRs⟩) hP hD hS hA [0, 1] rfl (by decide) (fun _ => rfl) (fun r5 u7 H locs hr5 hP hD hS => ?_)
      have hP : va_P (dC, dI) cl9 [(mx, .inr (4, [.int th, .long sd, .int nt, .ref ro, .ref pl, .ref vl, .int (nI 0), .ref pa, .ref pr])), (pa, .inl (cL, 240, .inr (.inl g3))), (pr, .inl (cL, 48, .inr (.inl p9)))] H := hP
      have hD : va_D A [(mx, .inr (4, [.int th, .long sd, .int nt, .ref ro, .ref pl, .ref vl, .int (nI 0), .ref pa, .ref pr])), (pa, .inl (cL, 240, .inr (.inl g3))), (pr, .inl (cL, 48, .inr (.inl p9)))] := hD
      refine lv_if_le (tgt := 163) hx hb d_M_root_153 (by decide) (fun hd => ?_) (fun hd => ?_)
      · refine lv_lload hx hb d_M_root_163 (lv_at hl 4 rfl) ?_
        refine lv_lstore (lv' := [(4, .long ((lo + hi) / 2)), (0, .ref mx), (3, .int (nI k)), (6, .long hi), (8, .long ((lo + hi) / 2)), (10, .int (nI k))]) hx hb d_M_root_165 hl (by decide) rfl (fun ls hl => ?_)
        refine lv_goto (tgt := 97) hx hb d_M_root_167 (by decide) ?_
        exact ih ((lo + hi) / 2) hi g3 q2 q3 (by omega) b2 d2 d4 (hR.trans ((if_neg hc).trans (if_neg (q1.mp (hr5 ▸ hd))))) _ _ _ hP hD hS (lv_sub hl [1, 2, 0, 3] rfl)
      · refine lv_lload hx hb d_M_root_156 (lv_at hl 4 rfl) ?_
        refine lv_lstore (lv' := [(6, .long ((lo + hi) / 2)), (0, .ref mx), (3, .int (nI k)), (4, .long lo), (8, .long ((lo + hi) / 2)), (10, .int (nI k))]) hx hb d_M_root_158 hl (by decide) rfl (fun ls hl => ?_)
        refine lv_goto (tgt := 167) hx hb d_M_root_160 (by decide) ?_
        refine lv_goto (tgt := 97) hx hb d_M_root_167 (by decide) ?_
        exact ih lo ((lo + hi) / 2) g3 q2 q3 b1 (by omega) d1 d3 (hR.trans ((if_neg hc).trans (if_pos (Decidable.not_not.mp (fun z => hd (hr5 ▸ q1.mpr z)))))) _ _ _ hP hD hS (lv_sub hl [1, 2, 3, 0] rfl)
set_option maxHeartbeats 4000000 in
set_option maxRecDepth 100000 in
/-- root(v, k) -/
theorem c_M_root (l : Launch) (dC : Nat → ClassId) (dI : Nat → Nat → Nat) (mx : Nat) (th : Int32) (sd : Int64) (nt : Int32) (ro : Nat) (pl : Nat) (vl : Nat) (f : Nat) (pa : Nat) (pr : Nat) (cL : ClassId) (g : Nat → Int64) (p9 : Nat → Int64) (v : Int64) (k9 : Int32) (hf9 : f ≤ 20) (sz : Nat) : ct_L l y_M_root w_M_root { frames := 1, cells := 0, slots := 0, locals := 40 } (dC, dI) cl9 [(cL, .long)] ct_G0 [.ref mx, .long v, .int k9] [(mx, .inr (4, [.int th, .long sd, .int nt, .ref ro, .ref pl, .ref vl, .int (nI f), .ref pa, .ref pr])), (pa, .inl (cL, 240, .inr (.inl g))), (pr, .inl (cL, 48, .inr (.inl p9)))] sz (S := Int32 × Nat × S2) (fun v9 (u : Int32 × Nat × S2) => u.2.1 ≤ 20 ∧ u.1 = th_rt v k9 ∧ v9 = vl_rt v k9) (fun _ : Int32 × Nat × S2 => [(cL, .long)]) (fun u : Int32 × Nat × S2 => [(mx, .inr (4, [.int u.1, .long sd, .int nt, .ref ro, .ref pl, .ref vl, .int (nI u.2.1), .ref pa, .ref pr])), (pa, .inl (cL, 240, .inr (.inl u.2.2.1))), (pr, .inl (cL, 48, .inr (.inl u.2.2.2)))]) 0 0 := by
  refine ct_of (Qf := fun A => va_Ql (fun v9 (u : Int32 × Nat × S2) => u.2.1 ≤ 20 ∧ u.1 = th_rt v k9 ∧ v9 = vl_rt v k9) (ct_B (S := Int32 × Nat × S2) (dC, dI) cl9 (fun _ : Int32 × Nat × S2 => [(cL, .long)]) A (fun u : Int32 × Nat × S2 => [(mx, .inr (4, [.int u.1, .long sd, .int nt, .ref ro, .ref pl, .ref vl, .int (nI u.2.1), .ref pa, .ref pr])), (pa, .inl (cL, 240, .inr (.inl u.2.2.1))), (pr, .inl (cL, 48, .inr (.inl u.2.2.2)))])) A) (cc := b_M_root) (maxL := 11) (ret := ((some .long))) (by decide) rfl (Nat.le_of_ble_eq_true rfl) ?_
  intro p e s m below meth c A ls hF hA hP hK hD hG hS hl
  obtain ⟨hx, hb, hr, hml, hts, hown, hlocks, hnm⟩ := id hF
  have hown : s.vm.findClass R_M = some m.cls := hown
  have ha : ∀ w ∈ al_M, w.before [.ref mx, .long v, .int k9].toArray s = true := fun w h => hts w (List.mem_cons_of_mem _ h)
  have hl : lv_has ls 11 [(0, .ref mx), (1, .long v), (3, .int k9)] := hl
  refine lv_aload_n hx hb d_M_root_0 rfl (lv_at hl 0 rfl) ?_
  refine lv_lload_n hx hb d_M_root_1 rfl (lv_at hl 1 rfl) ?_
  refine lv_lconst (v := 0) hx hb d_M_root_2 (by decide) ?_
  refine ct_jlt (tgt := 25) hx hb d_M_root_3 d_M_root_4 (by decide) (fun h1 => ?_) (fun h1 => ?_)
  · refine lv_iconst (v := 1) hx hb d_M_root_25 (by decide) ?_
    refine lv_goto (tgt := 30) hx hb d_M_root_26 (by decide) ?_
    refine va_put (D := (dC, dI)) (ci := 4) (v := .int 1) (ty := .int) (C := R_M) (T := F_M) (N := 9) hx hb ha ui_M ft_M tk_M nm_M hown hK hP hD hS 0 rfl rfl 0 (by decide) (ha _ wm_M_5) (fun _ h9 => h9) rfl (by decide +kernel) rfl rfl (Nat.le_of_ble_eq_true rfl) d_M_root_30 (fun H locs hP hD hS => ?_)
    have hP : va_P (dC, dI) cl9 [(mx, .inr (4, [.int 1, .long sd, .int nt, .ref ro, .ref pl, .ref vl, .int (nI f), .ref pa, .ref pr])), (pa, .inl (cL, 240, .inr (.inl g))), (pr, .inl (cL, 48, .inr (.inl p9)))] H := hP
    have hD : va_D A [(mx, .inr (4, [.int 1, .long sd, .int nt, .ref ro, .ref pl, .ref vl, .int (nI f), .ref pa, .ref pr])), (pa, .inl (cL, 240, .inr (.inl g))), (pr, .inl (cL, 48, .inr (.inl p9)))] := hD
    refine lv_aload_n hx hb d_M_root_33 rfl (lv_at hl 0 rfl) ?_
    refine va_get (D := (dC, dI)) (ci := 4) (v := .int 1) (C := R_M) (T := F_M) (N := 9) hx hb ha ui_M hown hK hP 0 rfl rfl 0 (by decide) (ha _ wm_M_5) (fun _ h9 => h9) rfl d_M_root_34 ?_
    refine lv_if_le (tgt := 42) hx hb d_M_root_37 (by decide) (fun hq => ?_) (fun hq => ?_)
    · exact absurd hq (by decide)
    · refine lv_lconst (v := 0) hx hb d_M_root_40 (by decide) ?_
      exact ct_lret hF d_M_root_41 (1, f, g, p9) ⟨hf9, (if_pos h1).symm, (if_pos h1).symm⟩ (hP.sub [0, 1, 2] rfl) (hD.sub [0, 1, 2] (by decide) rfl) hK hS
  · refine lv_lload_n hx hb d_M_root_7 rfl (lv_at hl 1 rfl) ?_
    refine lv_ldc2 (v := 1000000000000) hx hb hown (ha _ wm_M_77) d_M_root_8 ?_
    refine ct_jgt (tgt := 25) hx hb d_M_root_11 d_M_root_12 (by decide) (fun h2 => ?_) (fun h2 => ?_)
    · refine lv_iconst (v := 1) hx hb d_M_root_25 (by decide) ?_
      refine lv_goto (tgt := 30) hx hb d_M_root_26 (by decide) ?_
      refine va_put (D := (dC, dI)) (ci := 4) (v := .int 1) (ty := .int) (C := R_M) (T := F_M) (N := 9) hx hb ha ui_M ft_M tk_M nm_M hown hK hP hD hS 0 rfl rfl 0 (by decide) (ha _ wm_M_5) (fun _ h9 => h9) rfl (by decide +kernel) rfl rfl (Nat.le_of_ble_eq_true rfl) d_M_root_30 (fun H locs hP hD hS => ?_)
      have hP : va_P (dC, dI) cl9 [(mx, .inr (4, [.int 1, .long sd, .int nt, .ref ro, .ref pl, .ref vl, .int (nI f), .ref pa, .ref pr])), (pa, .inl (cL, 240, .inr (.inl g))), (pr, .inl (cL, 48, .inr (.inl p9)))] H := hP
      have hD : va_D A [(mx, .inr (4, [.int 1, .long sd, .int nt, .ref ro, .ref pl, .ref vl, .int (nI f), .ref pa, .ref pr])), (pa, .inl (cL, 240, .inr (.inl g))), (pr, .inl (cL, 48, .inr (.inl p9)))] := hD
      refine lv_aload_n hx hb d_M_root_33 rfl (lv_at hl 0 rfl) ?_
      refine va_get (D := (dC, dI)) (ci := 4) (v := .int 1) (C := R_M) (T := F_M) (N := 9) hx hb ha ui_M hown hK hP 0 rfl rfl 0 (by decide) (ha _ wm_M_5) (fun _ h9 => h9) rfl d_M_root_34 ?_
      refine lv_if_le (tgt := 42) hx hb d_M_root_37 (by decide) (fun hq => ?_) (fun hq => ?_)
      · exact absurd hq (by decide)
      · refine lv_lconst (v := 0) hx hb d_M_root_40 (by decide) ?_
        exact ct_lret hF d_M_root_41 (1, f, g, p9) ⟨hf9, ((if_neg h1).trans (if_pos h2)).symm, ((if_neg h1).trans (if_pos h2)).symm⟩ (hP.sub [0, 1, 2] rfl) (hD.sub [0, 1, 2] (by decide) rfl) hK hS
    · refine lv_iload_n hx hb d_M_root_15 rfl (lv_at hl 2 rfl) ?_
      refine lv_iconst (v := 2) hx hb d_M_root_16 (by decide) ?_
      refine lv_icmp_lt (tgt := 25) hx hb d_M_root_17 (by decide) (fun h3 => ?_) (fun h3 => ?_)
      · refine lv_iconst (v := 1) hx hb d_M_root_25 (by decide) ?_
        refine lv_goto (tgt := 30) hx hb d_M_root_26 (by decide) ?_
        refine va_put (D := (dC, dI)) (ci := 4) (v := .int 1) (ty := .int) (C := R_M) (T := F_M) (N := 9) hx hb ha ui_M ft_M tk_M nm_M hown hK hP hD hS 0 rfl rfl 0 (by decide) (ha _ wm_M_5) (fun _ h9 => h9) rfl (by decide +kernel) rfl rfl (Nat.le_of_ble_eq_true rfl) d_M_root_30 (fun H locs hP hD hS => ?_)
        have hP : va_P (dC, dI) cl9 [(mx, .inr (4, [.int 1, .long sd, .int nt, .ref ro, .ref pl, .ref vl, .int (nI f), .ref pa, .ref pr])), (pa, .inl (cL, 240, .inr (.inl g))), (pr, .inl (cL, 48, .inr (.inl p9)))] H := hP
        have hD : va_D A [(mx, .inr (4, [.int 1, .long sd, .int nt, .ref ro, .ref pl, .ref vl, .int (nI f), .ref pa, .ref pr])), (pa, .inl (cL, 240, .inr (.inl g))), (pr, .inl (cL, 48, .inr (.inl p9)))] := hD
        refine lv_aload_n hx hb d_M_root_33 rfl (lv_at hl 0 rfl) ?_
        refine va_get (D := (dC, dI)) (ci := 4) (v := .int 1) (C := R_M) (T := F_M) (N := 9) hx hb ha ui_M hown hK hP 0 rfl rfl 0 (by decide) (ha _ wm_M_5) (fun _ h9 => h9) rfl d_M_root_34 ?_
        refine lv_if_le (tgt := 42) hx hb d_M_root_37 (by decide) (fun hq => ?_) (fun hq => ?_)
        · exact absurd hq (by decide)
        · refine lv_lconst (v := 0) hx hb d_M_root_40 (by decide) ?_
          exact ct_lret hF d_M_root_41 (1, f, g, p9) ⟨hf9, ((if_neg h1).trans ((if_neg h2).trans (if_pos h3))).symm, ((if_neg h1).trans ((if_neg h2).trans (if_pos h3))).symm⟩ (hP.sub [0, 1, 2] rfl) (hD.sub [0, 1, 2] (by decide) rfl) hK hS
      · refine lv_iload_n hx hb d_M_root_20 rfl (lv_at hl 2 rfl) ?_
        refine lv_iconst (v := 5) hx hb d_M_root_21 (by decide) ?_
        refine lv_icmp_le (tgt := 29) hx hb d_M_root_22 (by decide) (fun h4 => ?_) (fun h4 => ?_)
        · refine lv_iconst (v := 0) hx hb d_M_root_29 (by decide) ?_
          refine va_put (D := (dC, dI)) (ci := 4) (v := .int 0) (ty := .int) (C := R_M) (T := F_M) (N := 9) hx hb ha ui_M ft_M tk_M nm_M hown hK hP hD hS 0 rfl rfl 0 (by decide) (ha _ wm_M_5) (fun _ h9 => h9) rfl (by decide +kernel) rfl rfl (Nat.le_of_ble_eq_true rfl) d_M_root_30 (fun H locs hP hD hS => ?_)
          have hP : va_P (dC, dI) cl9 [(mx, .inr (4, [.int 0, .long sd, .int nt, .ref ro, .ref pl, .ref vl, .int (nI f), .ref pa, .ref pr])), (pa, .inl (cL, 240, .inr (.inl g))), (pr, .inl (cL, 48, .inr (.inl p9)))] H := hP
          have hD : va_D A [(mx, .inr (4, [.int 0, .long sd, .int nt, .ref ro, .ref pl, .ref vl, .int (nI f), .ref pa, .ref pr])), (pa, .inl (cL, 240, .inr (.inl g))), (pr, .inl (cL, 48, .inr (.inl p9)))] := hD
          refine lv_aload_n hx hb d_M_root_33 rfl (lv_at hl 0 rfl) ?_
          refine va_get (D := (dC, dI)) (ci := 4) (v := .int 0) (C := R_M) (T := F_M) (N := 9) hx hb ha ui_M hown hK hP 0 rfl rfl 0 (by decide) (ha _ wm_M_5) (fun _ h9 => h9) rfl d_M_root_34 ?_
          refine lv_if_le (tgt := 42) hx hb d_M_root_37 (by decide) (fun hq => ?_) (fun hq => ?_)
          · obtain ⟨j, j1, j4, ek, et⟩ := rt_kj h3 h4
            have hv0 : 0 ≤ v.toInt := Int.not_lt.mp (fun q => h1 ((i64_lt _ _).mpr q))
            have hv1 : v.toInt ≤ 1000000000000 := Int.not_lt.mp (fun q => h2 ((i64_lt _ _).mpr q))
            have er : vl_rt v k9 = rts (rt_F v j) (j + 1) 40 0 1000000000001 := ((if_neg h1).trans ((if_neg h2).trans ((if_neg h3).trans (if_pos h4)))).trans (by rw [et]; rfl)
            have eth : th_rt v k9 = 0 := (if_neg h1).trans ((if_neg h2).trans ((if_neg h3).trans (if_pos h4)))
            refine lv_aload_n hx hb d_M_root_42 rfl (lv_at hl 0 rfl) ?_
            refine lv_iconst (v := 0) hx hb d_M_root_43 (by decide) ?_
            refine va_put (D := (dC, dI)) (ci := 4) (v := .int 0) (ty := .int) (C := R_M) (T := F_M) (N := 9) hx hb ha ui_M ft_M tk_M nm_M hown hK hP hD hS 0 rfl rfl 6 (by decide) (ha _ wm_M_11) (fun _ h9 => h9) rfl (by decide +kernel) rfl rfl (Nat.le_of_ble_eq_true rfl) d_M_root_44 (fun H locs hP hD hS => ?_)
            have hP : va_P (dC, dI) cl9 [(mx, .inr (4, [.int 0, .long sd, .int nt, .ref ro, .ref pl, .ref vl, .int 0, .ref pa, .ref pr])), (pa, .inl (cL, 240, .inr (.inl g))), (pr, .inl (cL, 48, .inr (.inl p9)))] H := hP
            have hD : va_D A [(mx, .inr (4, [.int 0, .long sd, .int nt, .ref ro, .ref pl, .ref vl, .int 0, .ref pa, .ref pr])), (pa, .inl (cL, 240, .inr (.inl g))), (pr, .inl (cL, 48, .inr (.inl p9)))] := hD
            have hP : va_P (dC, dI) cl9 [(mx, .inr (4, [.int 0, .long sd, .int nt, .ref ro, .ref pl, .ref vl, .int (nI 0), .ref pa, .ref pr])), (pa, .inl (cL, 240, .inr (.inl g))), (pr, .inl (cL, 48, .inr (.inl p9)))] H := hP
            have hD : va_D A [(mx, .inr (4, [.int 0, .long sd, .int nt, .ref ro, .ref pl, .ref vl, .int (nI 0), .ref pa, .ref pr])), (pa, .inl (cL, 240, .inr (.inl g))), (pr, .inl (cL, 48, .inr (.inl p9)))] := hD
            refine lv_aload_n hx hb d_M_root_47 rfl (lv_at hl 0 rfl) ?_
            refine lv_bipush (v := 6) hx hb d_M_root_48 (by decide) ?_
            refine lv_lload_n hx hb d_M_root_50 rfl (lv_at hl 1 rfl) ?_
            refine cs_callv (va_runV (As := [.int 6, .long v]) (rest := []) ⟨hx, hb, hml, hown, ha⟩ (c_M_whole l dC dI mx 0 sd nt ro pl vl 0 pa pr cL g 6 v (by omega) (by omega) _) (cwV 2 ha g_M_M_whole rfl rfl rfl (by decide +kernel) ⟨Nat.le_of_ble_eq_true rfl, Nat.le_of_ble_eq_true rfl⟩) (ct_preV ct_G0ok trivial hK hP hD hS hA [0, 1] rfl (by decide) [0] rfl 0 4 rfl rfl rfl) rfl rfl hl.1 rfl (lv_room (Nat.le_of_ble_eq_true rfl)) d_M_root_51 ⟨Nat.le_of_ble_eq_true rfl, Nat.le_of_ble_eq_true rfl⟩) hP hD hS hA [0, 1] rfl (by decide) (fun _ => rfl) (fun g_4 H locs hg_4 hP hD hS => ?_)
            have hP : va_P (dC, dI) cl9 [(mx, .inr (4, [.int 0, .long sd, .int nt, .ref ro, .ref pl, .ref vl, .int (nI 0), .ref pa, .ref pr])), (pa, .inl (cL, 240, .inr (.inl g_4))), (pr, .inl (cL, 48, .inr (.inl p9)))] H := hP
            have hD : va_D A [(mx, .inr (4, [.int 0, .long sd, .int nt, .ref ro, .ref pl, .ref vl, .int (nI 0), .ref pa, .ref pr])), (pa, .inl (cL, 240, .inr (.inl g_4))), (pr, .inl (cL, 48, .inr (.inl p9)))] := hD
            have hg_4 : g_4 = mr_wh 0 6 v g := hg_4.trans (ir_eq _).symm
            refine lv_iconst (v := 0) hx hb d_M_root_54 (by decide) ?_
            refine lv_istore (lv' := [(4, .int 0), (0, .ref mx), (1, .long v), (3, .int k9)]) hx hb d_M_root_55 hl (by decide) rfl (fun ls hl => ?_)
            have e9 : rt_1 v g 0 = g_4 := (hg_4).symm
            rw [ek] at hl
            refine lp_M_root1 (R := { frames := 1, cells := 0, slots := 0, locals := 40 }) (cells := 0) (slots := 0) (mx := mx) (th := 0) (sd := sd) (nt := nt) (ro := ro) (pl := pl) (vl := vl) (pa := pa) (pr := pr) (cL := cL) (g := g) (p9 := p9) (v := v) (j := j) hF hA hK (Nat.le_of_ble_eq_true rfl) (Nat.le_of_ble_eq_true rfl) (Nat.le_of_ble_eq_true rfl) (Nat.le_of_ble_eq_true rfl) j4 (fun H locs ls hP hD hS hl => ?_) j 0 (by omega) _ _ _ (by rw [e9]; exact hP) (by rw [e9]; exact hD) hS (lv_sub hl [1, 3, 0] rfl)
            obtain ⟨g1, hg1⟩ : ∃ y, y = rt_1 v g j := ⟨_, rfl⟩
            rw [← hg1] at hP hD
            refine lv_aload_n hx hb d_M_root_80 rfl (lv_at hl 0 rfl) ?_
            refine lv_bipush (v := 6) hx hb d_M_root_81 (by decide) ?_
            refine lv_ldc2 (v := 1000) hx hb hown (ha _ wm_M_125) d_M_root_83 ?_
            refine cs_callv (va_runV (As := [.int 6, .long 1000]) (rest := []) ⟨hx, hb, hml, hown, ha⟩ (c_M_times l dC dI mx 0 sd nt ro pl vl 0 pa pr cL g1 6 1000 (by omega) _) (cwV 2 ha g_M_M_times rfl rfl rfl (by decide +kernel) ⟨Nat.le_of_ble_eq_true rfl, Nat.le_of_ble_eq_true rfl⟩) (ct_preV ct_G0ok trivial hK hP hD hS hA [0, 1] rfl (by decide) [0] rfl 0 4 rfl rfl rfl) rfl rfl hl.1 rfl (lv_room (Nat.le_of_ble_eq_true rfl)) d_M_root_86 ⟨Nat.le_of_ble_eq_true rfl, Nat.le_of_ble_eq_true rfl⟩) hP hD hS hA [0, 1] rfl (by decide) (fun _ => rfl) (fun g_5 H locs hg_5 hP hD hS => ?_)
            have hP : va_P (dC, dI) cl9 [(mx, .inr (4, [.int 0, .long sd, .int nt, .ref ro, .ref pl, .ref vl, .int (nI 0), .ref pa, .ref pr])), (pa, .inl (cL, 240, .inr (.inl g_5))), (pr, .inl (cL, 48, .inr (.inl p9)))] H := hP
            have hD : va_D A [(mx, .inr (4, [.int 0, .long sd, .int nt, .ref ro, .ref pl, .ref vl, .int (nI 0), .ref pa, .ref pr])), (pa, .inl (cL, 240, .inr (.inl g_5))), (pr, .inl (cL, 48, .inr (.inl p9)))] := hD
            have hg_5 : g_5 = mr_tim 6 1000 g1 := hg_5.trans (ir_eq _).symm
            refine lv_lconst (v := 0) hx hb d_M_root_89 (by decide) ?_
            refine lv_lstore (lv' := [(4, .long 0), (0, .ref mx), (3, .int (nI (j + 1)))]) hx hb d_M_root_90 hl (by decide) rfl (fun ls hl => ?_)
            refine lv_ldc2 (v := 1000000000001) hx hb hown (ha _ wm_M_126) d_M_root_92 ?_
            refine lv_lstore (lv' := [(6, .long 1000000000001), (4, .long 0), (0, .ref mx), (3, .int (nI (j + 1)))]) hx hb d_M_root_95 hl (by decide) rfl (fun ls hl => ?_)
            have e2 : g_5 = rt_2 v j g := by rw [hg_5, hg1]; rfl
            obtain ⟨q6, qv⟩ := rt_2ok (g := g) hv0 hv1 j4
            rw [← e2] at q6 qv
            refine lp_M_root (R := { frames := 1, cells := 0, slots := 0, locals := 40 }) (cells := 0) (slots := 0) (mx := mx) (th := 0) (sd := sd) (nt := nt) (ro := ro) (pl := pl) (vl := vl) (pa := pa) (pr := pr) (cL := cL) (p9 := p9) (k := j + 1) (F := rt_F v j) (rr := rts (rt_F v j) (j + 1) 40 0 1000000000001) hF hA hK (Nat.le_of_ble_eq_true rfl) (Nat.le_of_ble_eq_true rfl) (Nat.le_of_ble_eq_true rfl) (Nat.le_of_ble_eq_true rfl) (by omega) (fun lo g8 hlo H locs ls hP hD hS hl => ?_) 40 0 1000000000001 g_5 q6 qv (by decide) (by decide) (by decide) (by decide) rfl _ _ _ hP hD hS (lv_sub hl [2, 3, 1, 0] rfl)
            refine lv_lload hx hb d_M_root_170 (lv_at hl 0 rfl) ?_
            exact ct_lret hF d_M_root_172 (0, 0, g8, p9) ⟨(show (0 : Nat) ≤ 20 by decide), eth.symm, hlo.trans er.symm⟩ (hP.sub [0, 1, 2] rfl) (hD.sub [0, 1, 2] (by decide) rfl) hK hS
          · exact absurd (by decide) hq
        · refine lv_iconst (v := 1) hx hb d_M_root_25 (by decide) ?_
          refine lv_goto (tgt := 30) hx hb d_M_root_26 (by decide) ?_
          refine va_put (D := (dC, dI)) (ci := 4) (v := .int 1) (ty := .int) (C := R_M) (T := F_M) (N := 9) hx hb ha ui_M ft_M tk_M nm_M hown hK hP hD hS 0 rfl rfl 0 (by decide) (ha _ wm_M_5) (fun _ h9 => h9) rfl (by decide +kernel) rfl rfl (Nat.le_of_ble_eq_true rfl) d_M_root_30 (fun H locs hP hD hS => ?_)
          have hP : va_P (dC, dI) cl9 [(mx, .inr (4, [.int 1, .long sd, .int nt, .ref ro, .ref pl, .ref vl, .int (nI f), .ref pa, .ref pr])), (pa, .inl (cL, 240, .inr (.inl g))), (pr, .inl (cL, 48, .inr (.inl p9)))] H := hP
          have hD : va_D A [(mx, .inr (4, [.int 1, .long sd, .int nt, .ref ro, .ref pl, .ref vl, .int (nI f), .ref pa, .ref pr])), (pa, .inl (cL, 240, .inr (.inl g))), (pr, .inl (cL, 48, .inr (.inl p9)))] := hD
          refine lv_aload_n hx hb d_M_root_33 rfl (lv_at hl 0 rfl) ?_
          refine va_get (D := (dC, dI)) (ci := 4) (v := .int 1) (C := R_M) (T := F_M) (N := 9) hx hb ha ui_M hown hK hP 0 rfl rfl 0 (by decide) (ha _ wm_M_5) (fun _ h9 => h9) rfl d_M_root_34 ?_
          refine lv_if_le (tgt := 42) hx hb d_M_root_37 (by decide) (fun hq => ?_) (fun hq => ?_)
          · exact absurd hq (by decide)
          · refine lv_lconst (v := 0) hx hb d_M_root_40 (by decide) ?_
            exact ct_lret hF d_M_root_41 (1, f, g, p9) ⟨hf9, ((if_neg h1).trans ((if_neg h2).trans ((if_neg h3).trans (if_neg h4)))).symm, ((if_neg h1).trans ((if_neg h2).trans ((if_neg h3).trans (if_neg h4)))).symm⟩ (hP.sub [0, 1, 2] rfl) (hD.sub [0, 1, 2] (by decide) rfl) hK hS
