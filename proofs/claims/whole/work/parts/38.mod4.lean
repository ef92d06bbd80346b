set_option maxHeartbeats 4000000 in
set_option maxRecDepth 100000 in
/-- the product made empty -/
theorem lp_M_mul1 {p : Program} {l : Launch} {e : Env} {R : Room} {s : State} {m : MethodId} {args : Array Value} {below : List Frame} {meth : Method} {c : Code} {Q : State → Prop} {A : Nat → Prop} {cells slots : Nat} {dC : Nat → ClassId} {dI : Nat → Nat → Nat} {mx : Nat} {th : Int32} {sd : Int64} {nt : Int32} {ro : Nat} {pl : Nat} {vl : Nat} {f : Nat} {pa : Nat} {pr : Nat} {cL : ClassId} {g : Nat → Int64} {p9 : Nat → Int64} {r : Nat} {a : Nat} {b : Nat} (hF : ct_F p s m meth c b_M_multiply none 9 w_M_multiply y_M_multiply args) (hA : ∀ q, s.heap.size ≤ q → A q) (hK : va_K (dC, dI) cl9 [(cL, .long)] s) (hr9 : r < 10) (ha9 : a < 10) (hb9 : b < 10) (hf9 : f ≤ 24)
    (K : ∀ (H : Heap) (locs : List Loc) (ls : Array Slot), va_P (dC, dI) cl9 [(mx, .inr (4, [.int th, .long sd, .int nt, .ref ro, .ref pl, .ref vl, .int (nI f), .ref pa, .ref pr])), (pa, .inl (cL, 240, .inr (.inl g))), (pr, .inl (cL, 48, .inr (.inl (wd_fl p9 0 48))))] H → va_D A [(mx, .inr (4, [.int th, .long sd, .int nt, .ref ro, .ref pl, .ref vl, .int (nI f), .ref pa, .ref pr])), (pa, .inl (cL, 240, .inr (.inl g))), (pr, .inl (cL, 48, .inr (.inl (wd_fl p9 0 48))))] → va_S A s.heap H locs → lv_has ls 9 [(0, .ref mx), (1, .int (nI r)), (2, .int (nI a)), (3, .int (nI b)), (4, .int (nI 48))] → W p l e R s m args below meth c H locs cells slots Q (F0 m 24 ls [])) :
    ∀ (n9 i : Nat), i + n9 = 48 → ∀ (H : Heap) (locs : List Loc) (ls : Array Slot), va_P (dC, dI) cl9 [(mx, .inr (4, [.int th, .long sd, .int nt, .ref ro, .ref pl, .ref vl, .int (nI f), .ref pa, .ref pr])), (pa, .inl (cL, 240, .inr (.inl g))), (pr, .inl (cL, 48, .inr (.inl (wd_fl p9 0 i))))] H → va_D A [(mx, .inr (4, [.int th, .long sd, .int nt, .ref ro, .ref pl, .ref vl, .int (nI f), .ref pa, .ref pr])), (pa, .inl (cL, 240, .inr (.inl g))), (pr, .inl (cL, 48, .inr (.inl (wd_fl p9 0 i))))] → va_S A s.heap H locs → lv_has ls 9 [(0, .ref mx), (1, .int (nI r)), (2, .int (nI a)), (3, .int (nI b)), (4, .int (nI i))] → W p l e R s m args below meth c H locs cells slots Q (F0 m 3 ls []) := by
  obtain ⟨hx, hb, hr, hml, hts, hown, hlocks, hnm⟩ := id hF
  have hown : s.vm.findClass R_M = some m.cls := hown
  have ha : ∀ w ∈ al_M, w.before args s = true := fun w h => hts w (List.mem_cons_of_mem _ h)
  intro n9
  induction n9 with
  | zero =>
    intro i hi H locs ls hP hD hS hl
    obtain rfl : 48 = i := by omega
    refine lv_iload hx hb d_M_multiply_3 (lv_at hl 4 rfl) ?_
    refine lv_bipush (v := 48) hx hb d_M_multiply_5 (by decide) ?_
    refine lv_icmp_ge (tgt := 24) hx hb d_M_multiply_7 (by decide) (fun hc => ?_) (fun hc => ?_)
    · exact K _ _ _ hP hD hS (lv_sub hl [0, 1, 2, 3, 4] rfl)
    · exact absurd (show nI 48 ≤ nI 48 from nI_le (by omega) (by omega)) hc
  | succ n9 ih =>
    intro i hi H locs ls hP hD hS hl
    have hlt : i < 48 := by omega
    refine lv_iload hx hb d_M_multiply_3 (lv_at hl 4 rfl) ?_
    refine lv_bipush (v := 48) hx hb d_M_multiply_5 (by decide) ?_
    refine lv_icmp_ge (tgt := 24) hx hb d_M_multiply_7 (by decide) (fun hc => ?_) (fun hc => ?_)
    · exact absurd (show nI 48 ≤ nI i from hc) (nI_ge (by omega) (by omega))
    · refine lv_aload_n hx hb d_M_multiply_10 rfl (lv_at hl 0 rfl) ?_
      refine va_get (D := (dC, dI)) (ci := 4) (v := .ref pr) (C := R_M) (T := F_M) (N := 9) hx hb ha ui_M hown hK hP 0 rfl rfl 8 (by decide) (ha _ wm_M_13) (fun _ h9 => h9) rfl d_M_multiply_11 ?_
      refine lv_iload hx hb d_M_multiply_14 (lv_at hl 4 rfl) ?_
      refine lv_lconst (v := 0) hx hb d_M_multiply_16 (by decide) ?_
      refine ct_last hx hb hK hP hD hS 2 0 rfl rfl i rfl (by omega) (by omega) d_M_multiply_17 (fun H locs hP hD hS => ?_)
      have hP : va_P (dC, dI) cl9 [(mx, .inr (4, [.int th, .long sd, .int nt, .ref ro, .ref pl, .ref vl, .int (nI f), .ref pa, .ref pr])), (pa, .inl (cL, 240, .inr (.inl g))), (pr, .inl (cL, 48, .inr (.inl (vp_updL (wd_fl p9 0 i) i 0))))] H := hP
      have hD : va_D A [(mx, .inr (4, [.int th, .long sd, .int nt, .ref ro, .ref pl, .ref vl, .int (nI f), .ref pa, .ref pr])), (pa, .inl (cL, 240, .inr (.inl g))), (pr, .inl (cL, 48, .inr (.inl (vp_updL (wd_fl p9 0 i) i 0))))] := hD
      refine lv_iinc (v := (nI (i + 1))) (lv' := [(4, .int (nI (i + 1))), (0, .ref mx), (1, .int (nI r)), (2, .int (nI a)), (3, .int (nI b))]) hx hb d_M_multiply_18 hl (k := 4) rfl (by exact nI_1 i) (by decide) rfl (fun ls hl => ?_)
      refine lv_goto (tgt := 3) hx hb d_M_multiply_21 (by decide) ?_
      rw [wd_fl_s] at hP hD
      exact ih (i + 1) (by omega) _ _ _ hP hD hS (lv_sub hl [1, 2, 3, 4, 0] rfl)
set_option maxHeartbeats 4000000 in
set_option maxRecDepth 100000 in
/-- a row of the product -/
theorem lp_M_mul2 {p : Program} {l : Launch} {e : Env} {R : Room} {s : State} {m : MethodId} {args : Array Value} {below : List Frame} {meth : Method} {c : Code} {Q : State → Prop} {A : Nat → Prop} {cells slots : Nat} {dC : Nat → ClassId} {dI : Nat → Nat → Nat} {mx : Nat} {th : Int32} {sd : Int64} {nt : Int32} {ro : Nat} {pl : Nat} {vl : Nat} {f : Nat} {pa : Nat} {pr : Nat} {cL : ClassId} {g : Nat → Int64} {p9 : Nat → Int64} {r : Nat} {a : Nat} {b : Nat} {x9 : Int64} {i0 : Nat} (hF : ct_F p s m meth c b_M_multiply none 9 w_M_multiply y_M_multiply args) (hA : ∀ q, s.heap.size ≤ q → A q) (hK : va_K (dC, dI) cl9 [(cL, .long)] s) (hr9 : r < 10) (ha9 : a < 10) (hb9 : b < 10) (hf9 : f ≤ 24) (hx0 : ¬ x9 ≤ 0) (hi0 : i0 < 24)
    (K : ∀ (H : Heap) (locs : List Loc) (ls : Array Slot), va_P (dC, dI) cl9 [(mx, .inr (4, [.int th, .long sd, .int nt, .ref ro, .ref pl, .ref vl, .int (nI f), .ref pa, .ref pr])), (pa, .inl (cL, 240, .inr (.inl g))), (pr, .inl (cL, 48, .inr (.inl (md_mi x9 b g i0 p9 24))))] H → va_D A [(mx, .inr (4, [.int th, .long sd, .int nt, .ref ro, .ref pl, .ref vl, .int (nI f), .ref pa, .ref pr])), (pa, .inl (cL, 240, .inr (.inl g))), (pr, .inl (cL, 48, .inr (.inl (md_mi x9 b g i0 p9 24))))] → va_S A s.heap H locs → lv_has ls 9 [(0, .ref mx), (1, .int (nI r)), (2, .int (nI a)), (3, .int (nI b)), (4, .int (nI i0)), (5, .long x9), (7, .int (nI 24))] → W p l e R s m args below meth c H locs cells slots Q (F0 m 99 ls [])) :
    ∀ (n9 i : Nat), i + n9 = 24 → ∀ (H : Heap) (locs : List Loc) (ls : Array Slot), va_P (dC, dI) cl9 [(mx, .inr (4, [.int th, .long sd, .int nt, .ref ro, .ref pl, .ref vl, .int (nI f), .ref pa, .ref pr])), (pa, .inl (cL, 240, .inr (.inl g))), (pr, .inl (cL, 48, .inr (.inl (md_mi x9 b g i0 p9 i))))] H → va_D A [(mx, .inr (4, [.int th, .long sd, .int nt, .ref ro, .ref pl, .ref vl, .int (nI f), .ref pa, .ref pr])), (pa, .inl (cL, 240, .inr (.inl g))), (pr, .inl (cL, 48, .inr (.inl (md_mi x9 b g i0 p9 i))))] → va_S A s.heap H locs → lv_has ls 9 [(0, .ref mx), (1, .int (nI r)), (2, .int (nI a)), (3, .int (nI b)), (4, .int (nI i0)), (5, .long x9), (7, .int (nI i))] → W p l e R s m args below meth c H locs cells slots Q (F0 m 51 ls []) := by
  obtain ⟨hx, hb, hr, hml, hts, hown, hlocks, hnm⟩ := id hF
  have hown : s.vm.findClass R_M = some m.cls := hown
  have ha : ∀ w ∈ al_M, w.before args s = true := fun w h => hts w (List.mem_cons_of_mem _ h)
  intro n9
  induction n9 with
  | zero =>
    intro i hi H locs ls hP hD hS hl
    obtain rfl : 24 = i := by omega
    refine lv_iload hx hb d_M_multiply_51 (lv_at hl 6 rfl) ?_
    refine lv_bipush (v := 24) hx hb d_M_multiply_53 (by decide) ?_
    refine lv_icmp_ge (tgt := 99) hx hb d_M_multiply_55 (by decide) (fun hc => ?_) (fun hc => ?_)
    · exact K _ _ _ hP hD hS (lv_sub hl [0, 1, 2, 3, 4, 5, 6] rfl)
    · exact absurd (show nI 24 ≤ nI 24 from nI_le (by omega) (by omega)) hc
  | succ n9 ih =>
    intro i hi H locs ls hP hD hS hl
    have hlt : i < 24 := by omega
    refine lv_iload hx hb d_M_multiply_51 (lv_at hl 6 rfl) ?_
    refine lv_bipush (v := 24) hx hb d_M_multiply_53 (by decide) ?_
    refine lv_icmp_ge (tgt := 99) hx hb d_M_multiply_55 (by decide) (fun hc => ?_) (fun hc => ?_)
    · exact absurd (show nI 24 ≤ nI i from hc) (nI_ge (by omega) (by omega))
    · refine lv_lload hx hb d_M_multiply_58 (lv_at hl 5 rfl) ?_
      refine lv_lconst (v := 0) hx hb d_M_multiply_60 (by decide) ?_
      refine ct_jle (tgt := 99) hx hb d_M_multiply_61 d_M_multiply_62 (by decide) (fun hx9 => ?_) (fun hx9 => ?_)
      · exact absurd hx9 hx0
      · refine lv_aload_n hx hb d_M_multiply_65 rfl (lv_at hl 0 rfl) ?_
        refine va_get (D := (dC, dI)) (ci := 4) (v := .ref pr) (C := R_M) (T := F_M) (N := 9) hx hb ha ui_M hown hK hP 0 rfl rfl 8 (by decide) (ha _ wm_M_13) (fun _ h9 => h9) rfl d_M_multiply_66 ?_
        refine lv_iload hx hb d_M_multiply_69 (lv_at hl 4 rfl) ?_
        refine lv_iload hx hb d_M_multiply_71 (lv_at hl 6 rfl) ?_
        refine lv_iadd hx hb d_M_multiply_73 ?_
        refine lv_dup2_11 hx hb d_M_multiply_74 rfl rfl ?_
        refine ct_lald hx hb hK hP 2 0 rfl rfl (i0 + i) (nI_add _ _) (by omega) (by omega) d_M_multiply_75 ?_
        refine lv_lload hx hb d_M_multiply_76 (lv_at hl 5 rfl) ?_
        refine lv_aload_n hx hb d_M_multiply_78 rfl (lv_at hl 0 rfl) ?_
        refine va_get (D := (dC, dI)) (ci := 4) (v := .ref pa) (C := R_M) (T := F_M) (N := 9) hx hb ha ui_M hown hK hP 0 rfl rfl 7 (by decide) (ha _ wm_M_12) (fun _ h9 => h9) rfl d_M_multiply_79 ?_
        refine lv_bipush (v := 24) hx hb d_M_multiply_82 (by decide) ?_
        refine lv_iload_n hx hb d_M_multiply_84 rfl (lv_at hl 3 rfl) ?_
        refine lv_imul hx hb d_M_multiply_85 ?_
        refine lv_iload hx hb d_M_multiply_86 (lv_at hl 6 rfl) ?_
        refine lv_iadd hx hb d_M_multiply_88 ?_
        refine ct_lald hx hb hK hP 1 0 rfl rfl (24 * b + i) (md_ix b i) (by omega) (by omega) d_M_multiply_89 ?_
        refine lv_lmul hx hb d_M_multiply_90 ?_
        refine lv_ladd hx hb d_M_multiply_91 ?_
        refine ct_last hx hb hK hP hD hS 2 0 rfl rfl (i0 + i) (nI_add _ _) (by omega) (by omega) d_M_multiply_92 (fun H locs hP hD hS => ?_)
        have hP : va_P (dC, dI) cl9 [(mx, .inr (4, [.int th, .long sd, .int nt, .ref ro, .ref pl, .ref vl, .int (nI f), .ref pa, .ref pr])), (pa, .inl (cL, 240, .inr (.inl g))), (pr, .inl (cL, 48, .inr (.inl (vp_updL (md_mi x9 b g i0 p9 i) (i0 + i) (((md_mi x9 b g i0 p9 i) (i0 + i)) + (x9 * (g (24 * b + i))))))))] H := hP
        have hD : va_D A [(mx, .inr (4, [.int th, .long sd, .int nt, .ref ro, .ref pl, .ref vl, .int (nI f), .ref pa, .ref pr])), (pa, .inl (cL, 240, .inr (.inl g))), (pr, .inl (cL, 48, .inr (.inl (vp_updL (md_mi x9 b g i0 p9 i) (i0 + i) (((md_mi x9 b g i0 p9 i) (i0 + i)) + (x9 * (g (24 * b + i))))))))] := hD
        refine lv_iinc (v := (nI (i + 1))) (lv' := [(7, .int (nI (i + 1))), (0, .ref mx), (1, .int (nI r)), (2, .int (nI a)), (3, .int (nI b)), (4, .int (nI i0)), (5, .long x9)]) hx hb d_M_multiply_93 hl (k := 6) rfl (by exact nI_1 i) (by decide) rfl (fun ls hl => ?_)
        refine lv_goto (tgt := 51) hx hb d_M_multiply_96 (by decide) ?_
        exact ih (i + 1) (by omega) _ _ _ hP hD hS (lv_sub hl [1, 2, 3, 4, 5, 6, 0] rfl)
set_option maxHeartbeats 4000000 in
set_option maxRecDepth 100000 in
/-- the rows of the product -/
theorem lp_M_mul3 {p : Program} {l : Launch} {e : Env} {R : Room} {s : State} {m : MethodId} {args : Array Value} {below : List Frame} {meth : Method} {c : Code} {Q : State → Prop} {A : Nat → Prop} {cells slots : Nat} {dC : Nat → ClassId} {dI : Nat → Nat → Nat} {mx : Nat} {th : Int32} {sd : Int64} {nt : Int32} {ro : Nat} {pl : Nat} {vl : Nat} {f : Nat} {pa : Nat} {pr : Nat} {cL : ClassId} {g : Nat → Int64} {p9 : Nat → Int64} {r : Nat} {a : Nat} {b : Nat} (hF : ct_F p s m meth c b_M_multiply none 9 w_M_multiply y_M_multiply args) (hA : ∀ q, s.heap.size ≤ q → A q) (hK : va_K (dC, dI) cl9 [(cL, .long)] s) (hr9 : r < 10) (ha9 : a < 10) (hb9 : b < 10) (hf9 : f ≤ 24)
    (K : ∀ (H : Heap) (locs : List Loc) (ls : Array Slot), va_P (dC, dI) cl9 [(mx, .inr (4, [.int th, .long sd, .int nt, .ref ro, .ref pl, .ref vl, .int (nI f), .ref pa, .ref pr])), (pa, .inl (cL, 240, .inr (.inl g))), (pr, .inl (cL, 48, .inr (.inl (md_mo a b g p9 24))))] H → va_D A [(mx, .inr (4, [.int th, .long sd, .int nt, .ref ro, .ref pl, .ref vl, .int (nI f), .ref pa, .ref pr])), (pa, .inl (cL, 240, .inr (.inl g))), (pr, .inl (cL, 48, .inr (.inl (md_mo a b g p9 24))))] → va_S A s.heap H locs → lv_has ls 9 [(0, .ref mx), (1, .int (nI r)), (2, .int (nI a)), (3, .int (nI b)), (4, .int (nI 24))] → W p l e R s m args below meth c H locs cells slots Q (F0 m 105 ls [])) :
    ∀ (n9 i : Nat), i + n9 = 24 → ∀ (H : Heap) (locs : List Loc) (ls : Array Slot), va_P (dC, dI) cl9 [(mx, .inr (4, [.int th, .long sd, .int nt, .ref ro, .ref pl, .ref vl, .int (nI f), .ref pa, .ref pr])), (pa, .inl (cL, 240, .inr (.inl g))), (pr, .inl (cL, 48, .inr (.inl (md_mo a b g p9 i))))] H → va_D A [(mx, .inr (4, [.int th, .long sd, .int nt, .ref ro, .ref pl, .ref vl, .int (nI f), .ref pa, .ref pr])), (pa, .inl (cL, 240, .inr (.inl g))), (pr, .inl (cL, 48, .inr (.inl (md_mo a b g p9 i))))] → va_S A s.heap H locs → lv_has ls 9 [(0, .ref mx), (1, .int (nI r)), (2, .int (nI a)), (3, .int (nI b)), (4, .int (nI i))] → W p l e R s m args below meth c H locs cells slots Q (F0 m 27 ls []) := by
  obtain ⟨hx, hb, hr, hml, hts, hown, hlocks, hnm⟩ := id hF
  have hown : s.vm.findClass R_M = some m.cls := hown
  have ha : ∀ w ∈ al_M, w.before args s = true := fun w h => hts w (List.mem_cons_of_mem _ h)
  intro n9
  induction n9 with
  | zero =>
    intro i hi H locs ls hP hD hS hl
    obtain rfl : 24 = i := by omega
    refine lv_iload hx hb d_M_multiply_27 (lv_at hl 4 rfl) ?_
    refine lv_bipush (v := 24) hx hb d_M_multiply_29 (by decide) ?_
    refine lv_icmp_ge (tgt := 105) hx hb d_M_multiply_31 (by decide) (fun hc => ?_) (fun hc => ?_)
    · exact K _ _ _ hP hD hS (lv_sub hl [0, 1, 2, 3, 4] rfl)
    · exact absurd (show nI 24 ≤ nI 24 from nI_le (by omega) (by omega)) hc
  | succ n9 ih =>
    intro i hi H locs ls hP hD hS hl
    have hlt : i < 24 := by omega
    refine lv_iload hx hb d_M_multiply_27 (lv_at hl 4 rfl) ?_
    refine lv_bipush (v := 24) hx hb d_M_multiply_29 (by decide) ?_
    refine lv_icmp_ge (tgt := 105) hx hb d_M_multiply_31 (by decide) (fun hc => ?_) (fun hc => ?_)
    · exact absurd (show nI 24 ≤ nI i from hc) (nI_ge (by omega) (by omega))
    · refine lv_aload_n hx hb d_M_multiply_34 rfl (lv_at hl 0 rfl) ?_
      refine va_get (D := (dC, dI)) (ci := 4) (v := .ref pa) (C := R_M) (T := F_M) (N := 9) hx hb ha ui_M hown hK hP 0 rfl rfl 7 (by decide) (ha _ wm_M_12) (fun _ h9 => h9) rfl d_M_multiply_35 ?_
      refine lv_bipush (v := 24) hx hb d_M_multiply_38 (by decide) ?_
      refine lv_iload_n hx hb d_M_multiply_40 rfl (lv_at hl 2 rfl) ?_
      refine lv_imul hx hb d_M_multiply_41 ?_
      refine lv_iload hx hb d_M_multiply_42 (lv_at hl 4 rfl) ?_
      refine lv_iadd hx hb d_M_multiply_44 ?_
      refine ct_lald hx hb hK hP 1 0 rfl rfl (24 * a + i) (md_ix a i) (by omega) (by omega) d_M_multiply_45 ?_
      refine lv_lstore (lv' := [(5, .long (g (24 * a + i))), (0, .ref mx), (1, .int (nI r)), (2, .int (nI a)), (3, .int (nI b)), (4, .int (nI i))]) hx hb d_M_multiply_46 hl (by decide) rfl (fun ls hl => ?_)
      refine lv_iconst (v := 0) hx hb d_M_multiply_48 (by decide) ?_
      refine lv_istore (lv' := [(7, .int 0), (5, .long (g (24 * a + i))), (0, .ref mx), (1, .int (nI r)), (2, .int (nI a)), (3, .int (nI b)), (4, .int (nI i))]) hx hb d_M_multiply_49 hl (by decide) rfl (fun ls hl => ?_)
      have hl : lv_has ls 9 [(0, .ref mx), (1, .int (nI r)), (2, .int (nI a)), (3, .int (nI b)), (4, .int (nI i)), (5, .long (g (24 * a + i))), (7, .int (nI 0))] := lv_sub hl [2, 3, 4, 5, 6, 1, 0] rfl
      by_cases hx0 : (g (24 * a + i)) ≤ 0
      · refine lv_iload hx hb d_M_multiply_51 (lv_at hl 6 rfl) ?_
        refine lv_bipush (v := 24) hx hb d_M_multiply_53 (by decide) ?_
        refine lv_icmp_ge (tgt := 99) hx hb d_M_multiply_55 (by decide) (fun hc => ?_) (fun hc => ?_)
        · exact absurd (show nI 24 ≤ nI 0 from hc) (nI_ge (by omega) (by omega))
        · refine lv_lload hx hb d_M_multiply_58 (lv_at hl 5 rfl) ?_
          refine lv_lconst (v := 0) hx hb d_M_multiply_60 (by decide) ?_
          refine ct_jle (tgt := 99) hx hb d_M_multiply_61 d_M_multiply_62 (by decide) (fun hd => ?_) (fun hd => ?_)
          · refine lv_iinc (v := (nI (i + 1))) (lv' := [(4, .int (nI (i + 1))), (0, .ref mx), (1, .int (nI r)), (2, .int (nI a)), (3, .int (nI b)), (5, .long (g (24 * a + i))), (7, .int (nI 0))]) hx hb d_M_multiply_99 hl (k := 4) rfl (by exact nI_1 i) (by decide) rfl (fun ls hl => ?_)
            refine lv_goto (tgt := 27) hx hb d_M_multiply_102 (by decide) ?_
            have e9 : md_mo a b g p9 (i + 1) = md_mo a b g p9 i := if_pos hx0
            exact ih (i + 1) (by omega) _ _ _ (by rw [e9]; exact hP) (by rw [e9]; exact hD) hS (lv_sub hl [1, 2, 3, 4, 0] rfl)
          · exact absurd hx0 hd
      · refine lp_M_mul2 (mx := mx) (th := th) (sd := sd) (nt := nt) (ro := ro) (pl := pl) (vl := vl) (f := f) (pa := pa) (pr := pr) (cL := cL) (g := g) (p9 := (md_mo a b g p9 i)) (r := r) (a := a) (b := b) (x9 := (g (24 * a + i))) (i0 := i) hF hA hK hr9 ha9 hb9 hf9 hx0 hlt (fun H locs ls hP hD hS hl => ?_) 24 0 (by omega) _ _ _ hP hD hS (lv_sub hl [0, 1, 2, 3, 4, 5, 6] rfl)
        refine lv_iinc (v := (nI (i + 1))) (lv' := [(4, .int (nI (i + 1))), (0, .ref mx), (1, .int (nI r)), (2, .int (nI a)), (3, .int (nI b)), (5, .long (g (24 * a + i))), (7, .int (nI 24))]) hx hb d_M_multiply_99 hl (k := 4) rfl (by exact nI_1 i) (by decide) rfl (fun ls hl => ?_)
        refine lv_goto (tgt := 27) hx hb d_M_multiply_102 (by decide) ?_
        have e9 : md_mo a b g p9 (i + 1) = md_mi (g (24 * a + i)) b g i (md_mo a b g p9 i) 24 := if_neg hx0
        exact ih (i + 1) (by omega) _ _ _ (by rw [e9]; exact hP) (by rw [e9]; exact hD) hS (lv_sub hl [1, 2, 3, 4, 0] rfl)
set_option maxHeartbeats 4000000 in
set_option maxRecDepth 100000 in
/-- carries, and what is kept -/
theorem lp_M_mul4 {p : Program} {l : Launch} {e : Env} {R : Room} {s : State} {m : MethodId} {args : Array Value} {below : List Frame} {meth : Method} {c : Code} {Q : State → Prop} {A : Nat → Prop} {cells slots : Nat} {dC : Nat → ClassId} {dI : Nat → Nat → Nat} {mx : Nat} {th : Int32} {sd : Int64} {nt : Int32} {ro : Nat} {pl : Nat} {vl : Nat} {f : Nat} {pa : Nat} {pr : Nat} {cL : ClassId} {g : Nat → Int64} {p9 : Nat → Int64} {r : Nat} {a : Nat} {b : Nat} (hF : ct_F p s m meth c b_M_multiply none 9 w_M_multiply y_M_multiply args) (hA : ∀ q, s.heap.size ≤ q → A q) (hK : va_K (dC, dI) cl9 [(cL, .long)] s) (hr9 : r < 10) (ha9 : a < 10) (hb9 : b < 10) (hf9 : f ≤ 24)
    (K : ∀ (H : Heap) (locs : List Loc) (ls : Array Slot), va_P (dC, dI) cl9 [(mx, .inr (4, [.int th, .long sd, .int nt, .ref ro, .ref pl, .ref vl, .int (nI f), .ref pa, .ref pr])), (pa, .inl (cL, 240, .inr (.inl ((md_m3 f r p9 g 48).1)))), (pr, .inl (cL, 48, .inr (.inl p9)))] H → va_D A [(mx, .inr (4, [.int th, .long sd, .int nt, .ref ro, .ref pl, .ref vl, .int (nI f), .ref pa, .ref pr])), (pa, .inl (cL, 240, .inr (.inl ((md_m3 f r p9 g 48).1)))), (pr, .inl (cL, 48, .inr (.inl p9)))] → va_S A s.heap H locs → lv_has ls 9 [(0, .ref mx), (1, .int (nI r)), (4, .long ((md_m3 f r p9 g 48).2)), (6, .int (nI 48))] → W p l e R s m args below meth c H locs cells slots Q (F0 m 188 ls [])) :
    ∀ (n9 i : Nat), i + n9 = 48 → ∀ (H : Heap) (locs : List Loc) (ls : Array Slot), va_P (dC, dI) cl9 [(mx, .inr (4, [.int th, .long sd, .int nt, .ref ro, .ref pl, .ref vl, .int (nI f), .ref pa, .ref pr])), (pa, .inl (cL, 240, .inr (.inl ((md_m3 f r p9 g i).1)))), (pr, .inl (cL, 48, .inr (.inl p9)))] H → va_D A [(mx, .inr (4, [.int th, .long sd, .int nt, .ref ro, .ref pl, .ref vl, .int (nI f), .ref pa, .ref pr])), (pa, .inl (cL, 240, .inr (.inl ((md_m3 f r p9 g i).1)))), (pr, .inl (cL, 48, .inr (.inl p9)))] → va_S A s.heap H locs → lv_has ls 9 [(0, .ref mx), (1, .int (nI r)), (4, .long ((md_m3 f r p9 g i).2)), (6, .int (nI i))] → W p l e R s m args below meth c H locs cells slots Q (F0 m 111 ls []) := by
  obtain ⟨hx, hb, hr, hml, hts, hown, hlocks, hnm⟩ := id hF
  have hown : s.vm.findClass R_M = some m.cls := hown
  have ha : ∀ w ∈ al_M, w.before args s = true := fun w h => hts w (List.mem_cons_of_mem _ h)
  intro n9
  induction n9 with
  | zero =>
    intro i hi H locs ls hP hD hS hl
    obtain rfl : 48 = i := by omega
    refine lv_iload hx hb d_M_multiply_111 (lv_at hl 3 rfl) ?_
    refine lv_bipush (v := 48) hx hb d_M_multiply_113 (by decide) ?_
    refine lv_icmp_ge (tgt := 188) hx hb d_M_multiply_115 (by decide) (fun hc => ?_) (fun hc => ?_)
    · exact K _ _ _ hP hD hS (lv_sub hl [0, 1, 2, 3] rfl)
    · exact absurd (show nI 48 ≤ nI 48 from nI_le (by omega) (by omega)) hc
  | succ n9 ih =>
    intro i hi H locs ls hP hD hS hl
    have hlt : i < 48 := by omega
    refine lv_iload hx hb d_M_multiply_111 (lv_at hl 3 rfl) ?_
    refine lv_bipush (v := 48) hx hb d_M_multiply_113 (by decide) ?_
    refine lv_icmp_ge (tgt := 188) hx hb d_M_multiply_115 (by decide) (fun hc => ?_) (fun hc => ?_)
    · exact absurd (show nI 48 ≤ nI i from hc) (nI_ge (by omega) (by omega))
    · refine lv_aload_n hx hb d_M_multiply_118 rfl (lv_at hl 0 rfl) ?_
      refine va_get (D := (dC, dI)) (ci := 4) (v := .ref pr) (C := R_M) (T := F_M) (N := 9) hx hb ha ui_M hown hK hP 0 rfl rfl 8 (by decide) (ha _ wm_M_13) (fun _ h9 => h9) rfl d_M_multiply_119 ?_
      refine lv_iload hx hb d_M_multiply_122 (lv_at hl 3 rfl) ?_
      refine ct_lald hx hb hK hP 2 0 rfl rfl i rfl (by omega) (by omega) d_M_multiply_124 ?_
      refine lv_lload hx hb d_M_multiply_125 (lv_at hl 2 rfl) ?_
      refine lv_ladd hx hb d_M_multiply_127 ?_
      refine lv_lstore (lv' := [(7, .long ((p9 i) + ((md_m3 f r p9 g i).2))), (0, .ref mx), (1, .int (nI r)), (4, .long ((md_m3 f r p9 g i).2)), (6, .int (nI i))]) hx hb d_M_multiply_128 hl (by decide) rfl (fun ls hl => ?_)
      refine lv_lload hx hb d_M_multiply_130 (lv_at hl 0 rfl) ?_
      refine lv_ldc2 (v := 1000000) hx hb hown (ha _ wm_M_32) d_M_multiply_132 ?_
      refine lv_ldiv hx hb d_M_multiply_135 (by decide) ?_
      refine lv_lstore (lv' := [(4, .long (((p9 i) + ((md_m3 f r p9 g i).2)) / 1000000)), (7, .long ((p9 i) + ((md_m3 f r p9 g i).2))), (0, .ref mx), (1, .int (nI r)), (6, .int (nI i))]) hx hb d_M_multiply_136 hl (by decide) rfl (fun ls hl => ?_)
      refine lv_iload hx hb d_M_multiply_138 (lv_at hl 4 rfl) ?_
      refine lv_aload_n hx hb d_M_multiply_140 rfl (lv_at hl 2 rfl) ?_
      refine va_get (D := (dC, dI)) (ci := 4) (v := .int (nI f)) (C := R_M) (T := F_M) (N := 9) hx hb ha ui_M hown hK hP 0 rfl rfl 6 (by decide) (ha _ wm_M_11) (fun _ h9 => h9) rfl d_M_multiply_141 ?_
      refine lv_icmp_lt (tgt := 182) hx hb d_M_multiply_144 (by decide) (fun h1 => ?_) (fun h1 => ?_)
      · have hk : i < f := Nat.lt_of_not_le (fun q => absurd (show nI i < nI f from h1) (nI_nlt q (by omega)))
        refine lv_iinc (v := (nI (i + 1))) (lv' := [(6, .int (nI (i + 1))), (4, .long (((p9 i) + ((md_m3 f r p9 g i).2)) / 1000000)), (7, .long ((p9 i) + ((md_m3 f r p9 g i).2))), (0, .ref mx), (1, .int (nI r))]) hx hb d_M_multiply_182 hl (k := 4) rfl (by exact nI_1 i) (by decide) rfl (fun ls hl => ?_)
        refine lv_goto (tgt := 111) hx hb d_M_multiply_185 (by decide) ?_
        have e9 : (md_m3 f r p9 g (i + 1)).1 = _ := if_pos hk
        exact ih (i + 1) (by omega) _ _ _ (by rw [e9]; exact hP) (by rw [e9]; exact hD) hS (lv_sub hl [3, 4, 1, 0] rfl)
      · have hk : ¬ i < f := fun q => h1 (show nI i < nI f from nI_lt q (by omega))
        refine lv_iload hx hb d_M_multiply_147 (lv_at hl 4 rfl) ?_
        refine lv_aload_n hx hb d_M_multiply_149 rfl (lv_at hl 2 rfl) ?_
        refine va_get (D := (dC, dI)) (ci := 4) (v := .int (nI f)) (C := R_M) (T := F_M) (N := 9) hx hb ha ui_M hown hK hP 0 rfl rfl 6 (by decide) (ha _ wm_M_11) (fun _ h9 => h9) rfl d_M_multiply_150 ?_
        refine lv_isub hx hb d_M_multiply_153 ?_
        refine lv_bipush (v := 24) hx hb d_M_multiply_154 (by decide) ?_
        refine lv_icmp_ge (tgt := 182) hx hb d_M_multiply_156 (by decide) (fun h2 => ?_) (fun h2 => ?_)
        · have hj : 24 ≤ i - f := (nI_leI (by omega) (by omega)).mp (by rw [← pk_sub (by omega)]; exact h2)
          refine lv_iinc (v := (nI (i + 1))) (lv' := [(6, .int (nI (i + 1))), (4, .long (((p9 i) + ((md_m3 f r p9 g i).2)) / 1000000)), (7, .long ((p9 i) + ((md_m3 f r p9 g i).2))), (0, .ref mx), (1, .int (nI r))]) hx hb d_M_multiply_182 hl (k := 4) rfl (by exact nI_1 i) (by decide) rfl (fun ls hl => ?_)
          refine lv_goto (tgt := 111) hx hb d_M_multiply_185 (by decide) ?_
          have e9 : (md_m3 f r p9 g (i + 1)).1 = _ := (if_neg hk).trans (if_pos hj)
          exact ih (i + 1) (by omega) _ _ _ (by rw [e9]; exact hP) (by rw [e9]; exact hD) hS (lv_sub hl [3, 4, 1, 0] rfl)
        · have hj : ¬ 24 ≤ i - f := fun q => h2 (by rw [pk_sub (by omega)]; exact nI_le q (by omega))
          refine lv_aload_n hx hb d_M_multiply_159 rfl (lv_at hl 2 rfl) ?_
          refine va_get (D := (dC, dI)) (ci := 4) (v := .ref pa) (C := R_M) (T := F_M) (N := 9) hx hb ha ui_M hown hK hP 0 rfl rfl 7 (by decide) (ha _ wm_M_12) (fun _ h9 => h9) rfl d_M_multiply_160 ?_
          refine lv_bipush (v := 24) hx hb d_M_multiply_163 (by decide) ?_
          refine lv_iload_n hx hb d_M_multiply_165 rfl (lv_at hl 3 rfl) ?_
          refine lv_imul hx hb d_M_multiply_166 ?_
          refine lv_iload hx hb d_M_multiply_167 (lv_at hl 4 rfl) ?_
          refine lv_iadd hx hb d_M_multiply_169 ?_
          refine lv_aload_n hx hb d_M_multiply_170 rfl (lv_at hl 2 rfl) ?_
          refine va_get (D := (dC, dI)) (ci := 4) (v := .int (nI f)) (C := R_M) (T := F_M) (N := 9) hx hb ha ui_M hown hK hP 0 rfl rfl 6 (by decide) (ha _ wm_M_11) (fun _ h9 => h9) rfl d_M_multiply_171 ?_
          refine lv_isub hx hb d_M_multiply_174 ?_
          refine lv_lload hx hb d_M_multiply_175 (lv_at hl 1 rfl) ?_
          refine lv_ldc2 (v := 1000000) hx hb hown (ha _ wm_M_32) d_M_multiply_177 ?_
          refine lv_lrem hx hb d_M_multiply_180 (by decide) ?_
          refine ct_last hx hb hK hP hD hS 1 0 rfl rfl (24 * r + (i - f)) (md_ix2 r i f (by omega)) (by omega) (by omega) d_M_multiply_181 (fun H locs hP hD hS => ?_)
          have hP : va_P (dC, dI) cl9 [(mx, .inr (4, [.int th, .long sd, .int nt, .ref ro, .ref pl, .ref vl, .int (nI f), .ref pa, .ref pr])), (pa, .inl (cL, 240, .inr (.inl (vp_updL ((md_m3 f r p9 g i).1) (24 * r + (i - f)) (((p9 i) + ((md_m3 f r p9 g i).2)) - ((p9 i) + ((md_m3 f r p9 g i).2)) / 1000000 * 1000000))))), (pr, .inl (cL, 48, .inr (.inl p9)))] H := hP
          have hD : va_D A [(mx, .inr (4, [.int th, .long sd, .int nt, .ref ro, .ref pl, .ref vl, .int (nI f), .ref pa, .ref pr])), (pa, .inl (cL, 240, .inr (.inl (vp_updL ((md_m3 f r p9 g i).1) (24 * r + (i - f)) (((p9 i) + ((md_m3 f r p9 g i).2)) - ((p9 i) + ((md_m3 f r p9 g i).2)) / 1000000 * 1000000))))), (pr, .inl (cL, 48, .inr (.inl p9)))] := hD
          refine lv_iinc (v := (nI (i + 1))) (lv' := [(6, .int (nI (i + 1))), (4, .long (((p9 i) + ((md_m3 f r p9 g i).2)) / 1000000)), (7, .long ((p9 i) + ((md_m3 f r p9 g i).2))), (0, .ref mx), (1, .int (nI r))]) hx hb d_M_multiply_182 hl (k := 4) rfl (by exact nI_1 i) (by decide) rfl (fun ls hl => ?_)
          refine lv_goto (tgt := 111) hx hb d_M_multiply_185 (by decide) ?_
          have e9 : (md_m3 f r p9 g (i + 1)).1 = _ := (if_neg hk).trans (if_neg hj)
          exact ih (i + 1) (by omega) _ _ _ (by rw [e9]; exact hP) (by rw [e9]; exact hD) hS (lv_sub hl [3, 4, 1, 0] rfl)
set_option maxHeartbeats 4000000 in
set_option maxRecDepth 100000 in
/-- register r becomes a times b -/
theorem c_M_multiply (l : Launch) (dC : Nat → ClassId) (dI : Nat → Nat → Nat) (mx : Nat) (th : Int32) (sd : Int64) (nt : Int32) (ro : Nat) (pl : Nat) (vl : Nat) (f : Nat) (pa : Nat) (pr : Nat) (cL : ClassId) (g : Nat → Int64) (p9 : Nat → Int64) (r a b : Nat) (hr9 : r < 10) (ha9 : a < 10) (hb9 : b < 10) (hf9 : f ≤ 24) (sz : Nat) : ct_V l y_M_multiply w_M_multiply { frames := 0, cells := 0, slots := 0, locals := 0 } (dC, dI) cl9 [(cL, .long)] ct_G0 [.ref mx, .int (nI r), .int (nI a), .int (nI b)] [(mx, .inr (4, [.int th, .long sd, .int nt, .ref ro, .ref pl, .ref vl, .int (nI f), .ref pa, .ref pr])), (pa, .inl (cL, 240, .inr (.inl g))), (pr, .inl (cL, 48, .inr (.inl p9)))] sz (S := (Nat → Int64) × (Nat → Int64)) (fun u : (Nat → Int64) × (Nat → Int64) => u.1 = mr_mul f r a b g p9 ∧ u.2 = mr_mo a b g p9) (fun _ : (Nat → Int64) × (Nat → Int64) => [(cL, .long)]) (fun u : (Nat → Int64) × (Nat → Int64) => [(mx, .inr (4, [.int th, .long sd, .int nt, .ref ro, .ref pl, .ref vl, .int (nI f), .ref pa, .ref pr])), (pa, .inl (cL, 240, .inr (.inl u.1))), (pr, .inl (cL, 48, .inr (.inl u.2)))]) 0 0 := by
  refine ct_of (Qf := fun A => va_Qv (fun u : (Nat → Int64) × (Nat → Int64) => u.1 = mr_mul f r a b g p9 ∧ u.2 = mr_mo a b g p9) (ct_B (S := (Nat → Int64) × (Nat → Int64)) (dC, dI) cl9 (fun _ : (Nat → Int64) × (Nat → Int64) => [(cL, .long)]) A (fun u : (Nat → Int64) × (Nat → Int64) => [(mx, .inr (4, [.int th, .long sd, .int nt, .ref ro, .ref pl, .ref vl, .int (nI f), .ref pa, .ref pr])), (pa, .inl (cL, 240, .inr (.inl u.1))), (pr, .inl (cL, 48, .inr (.inl u.2)))])) A) (cc := b_M_multiply) (maxL := 9) (ret := none) (by decide) rfl (Nat.le_of_ble_eq_true rfl) ?_
  intro p e s m below meth c A ls hF hA hP hK hD hG hS hl
  obtain ⟨hx, hb, hr, hml, hts, hown, hlocks, hnm⟩ := id hF
  have hown : s.vm.findClass R_M = some m.cls := hown
  have ha : ∀ w ∈ al_M, w.before [.ref mx, .int (nI r), .int (nI a), .int (nI b)].toArray s = true := fun w h => hts w (List.mem_cons_of_mem _ h)
  have hl : lv_has ls 9 [(0, .ref mx), (1, .int (nI r)), (2, .int (nI a)), (3, .int (nI b))] := hl
  refine lv_iconst (v := 0) hx hb d_M_multiply_0 (by decide) ?_
  refine lv_istore (lv' := [(4, .int 0), (0, .ref mx), (1, .int (nI r)), (2, .int (nI a)), (3, .int (nI b))]) hx hb d_M_multiply_1 hl (by decide) rfl (fun ls hl => ?_)
  rw [← wd_fl_0 p9 0] at hP hD
  refine lp_M_mul1 (mx := mx) (th := th) (sd := sd) (nt := nt) (ro := ro) (pl := pl) (vl := vl) (f := f) (pa := pa) (pr := pr) (cL := cL) (g := g) (p9 := p9) (r := r) (a := a) (b := b) hF hA hK hr9 ha9 hb9 hf9 (fun H locs ls hP hD hS hl => ?_) 48 0 (by omega) _ _ _ hP hD hS (lv_sub hl [1, 2, 3, 4, 0] rfl)
  refine lv_iconst (v := 0) hx hb d_M_multiply_24 (by decide) ?_
  refine lv_istore (lv' := [(4, .int 0), (0, .ref mx), (1, .int (nI r)), (2, .int (nI a)), (3, .int (nI b))]) hx hb d_M_multiply_25 hl (by decide) rfl (fun ls hl => ?_)
  refine lp_M_mul3 (mx := mx) (th := th) (sd := sd) (nt := nt) (ro := ro) (pl := pl) (vl := vl) (f := f) (pa := pa) (pr := pr) (cL := cL) (g := g) (p9 := p9) (r := r) (a := a) (b := b) hF hA hK hr9 ha9 hb9 hf9 (fun H locs ls hP hD hS hl => ?_) 24 0 (by omega) _ _ _ hP hD hS (lv_sub hl [1, 2, 3, 4, 0] rfl)
  refine lv_lconst (v := 0) hx hb d_M_multiply_105 (by decide) ?_
  refine lv_lstore (lv' := [(4, .long 0), (0, .ref mx), (1, .int (nI r)), (2, .int (nI a)), (3, .int (nI b))]) hx hb d_M_multiply_106 hl (by decide) rfl (fun ls hl => ?_)
  refine lv_iconst (v := 0) hx hb d_M_multiply_108 (by decide) ?_
  refine lv_istore (lv' := [(6, .int 0), (4, .long 0), (0, .ref mx), (1, .int (nI r)), (2, .int (nI a)), (3, .int (nI b))]) hx hb d_M_multiply_109 hl (by decide) rfl (fun ls hl => ?_)
  refine lp_M_mul4 (mx := mx) (th := th) (sd := sd) (nt := nt) (ro := ro) (pl := pl) (vl := vl) (f := f) (pa := pa) (pr := pr) (cL := cL) (g := g) (p9 := (md_mo a b g p9 24)) (r := r) (a := a) (b := b) hF hA hK hr9 ha9 hb9 hf9 (fun H locs ls hP hD hS hl => ?_) 48 0 (by omega) _ _ _ hP hD hS (lv_sub hl [2, 3, 1, 0] rfl)
  exact ct_vret hF d_M_multiply_188 ((md_m3 f r (md_mo a b g p9 24) g 48).1, md_mo a b g p9 24) ⟨(ir_eq _).symm, (ir_eq _).symm⟩ (hP.sub [0, 1, 2] rfl) (hD.sub [0, 1, 2] (by decide) rfl) hK hS
