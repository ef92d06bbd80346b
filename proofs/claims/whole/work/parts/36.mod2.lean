set_option maxHeartbeats 4000000 in
set_option maxRecDepth 100000 in
/-- isNothing's loop -/
theorem lp_M_isNothing {p : Program} {l : Launch} {e : Env} {R : Room} {s : State} {m : MethodId} {args : Array Value} {below : List Frame} {meth : Method} {c : Code} {Q : State → Prop} {A : Nat → Prop} {cells slots : Nat} {dC : Nat → ClassId} {dI : Nat → Nat → Nat} {mx : Nat} {th : Int32} {sd : Int64} {nt : Int32} {ro : Nat} {pl : Nat} {vl : Nat} {f : Nat} {pa : Nat} {pr : Nat} {cL : ClassId} {g : Nat → Int64} {r : Nat} (hF : ct_F p s m meth c b_M_isNothing ((some .boolean)) 4 w_M_isNothing y_M_isNothing args) (hA : ∀ q, s.heap.size ≤ q → A q) (hK : va_K (dC, dI) cl9 [(cL, .long)] s) (hr9 : r < 10)
    (K : ∀ (H : Heap) (locs : List Loc) (ls : Array Slot), va_P (dC, dI) cl9 [(mx, .inr (4, [.int th, .long sd, .int nt, .ref ro, .ref pl, .ref vl, .int (nI f), .ref pa, .ref pr])), (pa, .inl (cL, 240, .inr (.inl g)))] H → va_D A [(mx, .inr (4, [.int th, .long sd, .int nt, .ref ro, .ref pl, .ref vl, .int (nI f), .ref pa, .ref pr])), (pa, .inl (cL, 240, .inr (.inl g)))] → va_S A s.heap H locs → lv_has ls 4 [(0, .ref mx), (1, .int (nI r)), (2, .int (md_no r g 24)), (3, .int (nI 24))] → W p l e R s m args below meth c H locs cells slots Q (F0 m 42 ls [])) :
    ∀ (n9 i : Nat), i + n9 = 24 → ∀ (H : Heap) (locs : List Loc) (ls : Array Slot), va_P (dC, dI) cl9 [(mx, .inr (4, [.int th, .long sd, .int nt, .ref ro, .ref pl, .ref vl, .int (nI f), .ref pa, .ref pr])), (pa, .inl (cL, 240, .inr (.inl g)))] H → va_D A [(mx, .inr (4, [.int th, .long sd, .int nt, .ref ro, .ref pl, .ref vl, .int (nI f), .ref pa, .ref pr])), (pa, .inl (cL, 240, .inr (.inl g)))] → va_S A s.heap H locs → lv_has ls 4 [(0, .ref mx), (1, .int (nI r)), (2, .int (md_no r g i)), (3, .int (nI i))] → W p l e R s m args below meth c H locs cells slots Q (F0 m 4 ls []) := by
  obtain ⟨hx, hb, hr, hml, hts, hown, hlocks, hnm⟩ := id hF
  have hown : s.vm.findClass R_M = some m.cls := hown
  have ha : ∀ w ∈ al_M, w.before args s = true := fun w h => hts w (List.mem_cons_of_mem _ h)
  intro n9
  induction n9 with
  | zero =>
    intro i hi H locs ls hP hD hS hl
    obtain rfl : 24 = i := by omega
    refine lv_iload_n hx hb d_M_isNothing_4 rfl (lv_at hl 3 rfl) ?_
    refine lv_bipush (v := 24) hx hb d_M_isNothing_5 (by decide) ?_
    refine lv_icmp_ge (tgt := 42) hx hb d_M_isNothing_7 (by decide) (fun hc => ?_) (fun hc => ?_)
    · exact K _ _ _ hP hD hS (lv_sub hl [0, 1, 2, 3] rfl)
    · exact absurd (show nI 24 ≤ nI 24 from nI_le (by omega) (by omega)) hc
  | succ n9 ih =>
    intro i hi H locs ls hP hD hS hl
    have hlt : i < 24 := by omega
    refine lv_iload_n hx hb d_M_isNothing_4 rfl (lv_at hl 3 rfl) ?_
    refine lv_bipush (v := 24) hx hb d_M_isNothing_5 (by decide) ?_
    refine lv_icmp_ge (tgt := 42) hx hb d_M_isNothing_7 (by decide) (fun hc => ?_) (fun hc => ?_)
    · exact absurd (show nI 24 ≤ nI i from hc) (nI_ge (by omega) (by omega))
    · refine lv_iload_n hx hb d_M_isNothing_10 rfl (lv_at hl 2 rfl) ?_
      refine lv_if_eq (tgt := 34) hx hb d_M_isNothing_11 (by decide) (fun h1 => ?_) (fun h1 => ?_)
      · refine lv_iconst (v := 0) hx hb d_M_isNothing_34 (by decide) ?_
        rw [show (0 : Int32) = md_no r g (i + 1) from (if_pos h1).symm]
        refine lv_istore_n (lv' := [(2, .int (md_no r g (i + 1))), (0, .ref mx), (1, .int (nI r)), (3, .int (nI i))]) hx hb d_M_isNothing_35 rfl hl (by decide) rfl (fun ls hl => ?_)
        refine lv_iinc (v := (nI (i + 1))) (lv' := [(3, .int (nI (i + 1))), (2, .int (md_no r g (i + 1))), (0, .ref mx), (1, .int (nI r))]) hx hb d_M_isNothing_36 hl (k := 3) rfl (by exact nI_1 i) (by decide) rfl (fun ls hl => ?_)
        refine lv_goto (tgt := 4) hx hb d_M_isNothing_39 (by decide) ?_
        exact ih (i + 1) (by omega) _ _ _ hP hD hS (lv_sub hl [2, 3, 1, 0] rfl)
      · refine lv_aload_n hx hb d_M_isNothing_14 rfl (lv_at hl 0 rfl) ?_
        refine va_get (D := (dC, dI)) (ci := 4) (v := .ref pa) (C := R_M) (T := F_M) (N := 9) hx hb ha ui_M hown hK hP 0 rfl rfl 7 (by decide) (ha _ wm_M_12) (fun _ h9 => h9) rfl d_M_isNothing_15 ?_
        refine lv_bipush (v := 24) hx hb d_M_isNothing_18 (by decide) ?_
        refine lv_iload_n hx hb d_M_isNothing_20 rfl (lv_at hl 1 rfl) ?_
        refine lv_imul hx hb d_M_isNothing_21 ?_
        refine lv_iload_n hx hb d_M_isNothing_22 rfl (lv_at hl 3 rfl) ?_
        refine lv_iadd hx hb d_M_isNothing_23 ?_
        refine ct_lald hx hb hK hP 1 0 rfl rfl (24 * r + i) (md_ix r i) (by omega) (by omega) d_M_isNothing_24 ?_
        refine lv_lconst (v := 0) hx hb d_M_isNothing_25 (by decide) ?_
        refine ct_jne (tgt := 34) hx hb d_M_isNothing_26 d_M_isNothing_27 (by decide) (fun h2 => ?_) (fun h2 => ?_)
        · refine lv_iconst (v := 0) hx hb d_M_isNothing_34 (by decide) ?_
          rw [show (0 : Int32) = md_no r g (i + 1) from ((if_neg h1).trans (if_neg h2)).symm]
          refine lv_istore_n (lv' := [(2, .int (md_no r g (i + 1))), (0, .ref mx), (1, .int (nI r)), (3, .int (nI i))]) hx hb d_M_isNothing_35 rfl hl (by decide) rfl (fun ls hl => ?_)
          refine lv_iinc (v := (nI (i + 1))) (lv' := [(3, .int (nI (i + 1))), (2, .int (md_no r g (i + 1))), (0, .ref mx), (1, .int (nI r))]) hx hb d_M_isNothing_36 hl (k := 3) rfl (by exact nI_1 i) (by decide) rfl (fun ls hl => ?_)
          refine lv_goto (tgt := 4) hx hb d_M_isNothing_39 (by decide) ?_
          exact ih (i + 1) (by omega) _ _ _ hP hD hS (lv_sub hl [2, 3, 1, 0] rfl)
        · refine lv_iconst (v := 1) hx hb d_M_isNothing_30 (by decide) ?_
          refine lv_goto (tgt := 35) hx hb d_M_isNothing_31 (by decide) ?_
          rw [show (1 : Int32) = md_no r g (i + 1) from ((if_neg h1).trans (if_pos h2)).symm]
          refine lv_istore_n (lv' := [(2, .int (md_no r g (i + 1))), (0, .ref mx), (1, .int (nI r)), (3, .int (nI i))]) hx hb d_M_isNothing_35 rfl hl (by decide) rfl (fun ls hl => ?_)
          refine lv_iinc (v := (nI (i + 1))) (lv' := [(3, .int (nI (i + 1))), (2, .int (md_no r g (i + 1))), (0, .ref mx), (1, .int (nI r))]) hx hb d_M_isNothing_36 hl (k := 3) rfl (by exact nI_1 i) (by decide) rfl (fun ls hl => ?_)
          refine lv_goto (tgt := 4) hx hb d_M_isNothing_39 (by decide) ?_
          exact ih (i + 1) (by omega) _ _ _ hP hD hS (lv_sub hl [2, 3, 1, 0] rfl)
set_option maxHeartbeats 4000000 in
set_option maxRecDepth 100000 in
/-- whether register r is 0 -/
theorem c_M_isNothing (l : Launch) (dC : Nat → ClassId) (dI : Nat → Nat → Nat) (mx : Nat) (th : Int32) (sd : Int64) (nt : Int32) (ro : Nat) (pl : Nat) (vl : Nat) (f : Nat) (pa : Nat) (pr : Nat) (cL : ClassId) (g : Nat → Int64) (r : Nat) (hr9 : r < 10) (sz : Nat) : ct_I l y_M_isNothing w_M_isNothing { frames := 0, cells := 0, slots := 0, locals := 0 } (dC, dI) cl9 [(cL, .long)] ct_G0 [.ref mx, .int (nI r)] [(mx, .inr (4, [.int th, .long sd, .int nt, .ref ro, .ref pl, .ref vl, .int (nI f), .ref pa, .ref pr])), (pa, .inl (cL, 240, .inr (.inl g)))] sz (S := Unit) (fun z _ => z = md_no r g 24) (fun _ : Unit => [(cL, .long)]) (fun _ => [(mx, .inr (4, [.int th, .long sd, .int nt, .ref ro, .ref pl, .ref vl, .int (nI f), .ref pa, .ref pr])), (pa, .inl (cL, 240, .inr (.inl g)))]) 0 0 := by
  refine ct_of (Qf := fun A => va_Qi (fun z _ => z = md_no r g 24) (ct_B (S := Unit) (dC, dI) cl9 (fun _ : Unit => [(cL, .long)]) A (fun _ => [(mx, .inr (4, [.int th, .long sd, .int nt, .ref ro, .ref pl, .ref vl, .int (nI f), .ref pa, .ref pr])), (pa, .inl (cL, 240, .inr (.inl g)))])) A) (cc := b_M_isNothing) (maxL := 4) (ret := ((some .boolean))) (by decide) rfl (Nat.le_of_ble_eq_true rfl) ?_
  intro p e s m below meth c A ls hF hA hP hK hD hG hS hl
  obtain ⟨hx, hb, hr, hml, hts, hown, hlocks, hnm⟩ := id hF
  have hown : s.vm.findClass R_M = some m.cls := hown
  have ha : ∀ w ∈ al_M, w.before [.ref mx, .int (nI r)].toArray s = true := fun w h => hts w (List.mem_cons_of_mem _ h)
  have hl : lv_has ls 4 [(0, .ref mx), (1, .int (nI r))] := hl
  refine lv_iconst (v := 1) hx hb d_M_isNothing_0 (by decide) ?_
  refine lv_istore_n (lv' := [(2, .int 1), (0, .ref mx), (1, .int (nI r))]) hx hb d_M_isNothing_1 rfl hl (by decide) rfl (fun ls hl => ?_)
  refine lv_iconst (v := 0) hx hb d_M_isNothing_2 (by decide) ?_
  refine lv_istore_n (lv' := [(3, .int 0), (2, .int 1), (0, .ref mx), (1, .int (nI r))]) hx hb d_M_isNothing_3 rfl hl (by decide) rfl (fun ls hl => ?_)
  refine lp_M_isNothing (mx := mx) (th := th) (sd := sd) (nt := nt) (ro := ro) (pl := pl) (vl := vl) (f := f) (pa := pa) (pr := pr) (cL := cL) (g := g) (r := r) hF hA hK hr9 (fun H locs ls hP hD hS hl => ?_) 24 0 (by omega) _ _ _ hP hD hS (lv_sub hl [2, 3, 1, 0] rfl)
  refine lv_iload_n hx hb d_M_isNothing_42 rfl (lv_at hl 2 rfl) ?_
  have hz9 : narrow .boolean (.int (md_no r g 24)) = .int (md_no r g 24) := by rcases md_no01 r g 24 with h | h <;> rw [h] <;> rfl
  exact ct_zret hF d_M_isNothing_43 hz9 () rfl (hP.sub [0, 1] rfl) (hD.sub [0, 1] (by decide) rfl) hK hS
set_option maxHeartbeats 4000000 in
set_option maxRecDepth 100000 in
/-- against's loop -/
theorem lp_M_against {p : Program} {l : Launch} {e : Env} {R : Room} {s : State} {m : MethodId} {args : Array Value} {below : List Frame} {meth : Method} {c : Code} {Q : State → Prop} {A : Nat → Prop} {cells slots : Nat} {dC : Nat → ClassId} {dI : Nat → Nat → Nat} {mx : Nat} {th : Int32} {sd : Int64} {nt : Int32} {ro : Nat} {pl : Nat} {vl : Nat} {f : Nat} {pa : Nat} {pr : Nat} {cL : ClassId} {g : Nat → Int64} {a : Nat} {b : Nat} (hF : ct_F p s m meth c b_M_against ((some .int)) 8 w_M_against y_M_against args) (hA : ∀ q, s.heap.size ≤ q → A q) (hK : va_K (dC, dI) cl9 [(cL, .long)] s) (hr9 : a < 10) (ha9 : b < 10) (Kx : ∀ (n9 : Nat), n9 < 24 → ¬ g (24 * a + n9) = g (24 * b + n9) → md_ag a b g 24 = md_ag a b g (n9 + 1) → ∀ (H : Heap) (locs : List Loc) (ls : Array Slot), va_P (dC, dI) cl9 [(mx, .inr (4, [.int th, .long sd, .int nt, .ref ro, .ref pl, .ref vl, .int (nI f), .ref pa, .ref pr])), (pa, .inl (cL, 240, .inr (.inl g)))] H → va_D A [(mx, .inr (4, [.int th, .long sd, .int nt, .ref ro, .ref pl, .ref vl, .int (nI f), .ref pa, .ref pr])), (pa, .inl (cL, 240, .inr (.inl g)))] → va_S A s.heap H locs → lv_has ls 8 [(4, .long (g (24 * a + n9))), (6, .long (g (24 * b + n9)))] → W p l e R s m args below meth c H locs cells slots Q (F0 m 41 ls []))
    (K : (md_ag a b g 24 = md_ag a b g 0) → ∀ (H : Heap) (locs : List Loc) (ls : Array Slot), va_P (dC, dI) cl9 [(mx, .inr (4, [.int th, .long sd, .int nt, .ref ro, .ref pl, .ref vl, .int (nI f), .ref pa, .ref pr])), (pa, .inl (cL, 240, .inr (.inl g)))] H → va_D A [(mx, .inr (4, [.int th, .long sd, .int nt, .ref ro, .ref pl, .ref vl, .int (nI f), .ref pa, .ref pr])), (pa, .inl (cL, 240, .inr (.inl g)))] → va_S A s.heap H locs → lv_has ls 8 [(0, .ref mx), (1, .int (nI a)), (2, .int (nI b)), (3, .int (nI 0 + (-1)))] → W p l e R s m args below meth c H locs cells slots Q (F0 m 61 ls [])) :
    ∀ (n9 i : Nat), i + n9 = 24 → (md_ag a b g 24 = md_ag a b g n9) → ∀ (H : Heap) (locs : List Loc) (ls : Array Slot), va_P (dC, dI) cl9 [(mx, .inr (4, [.int th, .long sd, .int nt, .ref ro, .ref pl, .ref vl, .int (nI f), .ref pa, .ref pr])), (pa, .inl (cL, 240, .inr (.inl g)))] H → va_D A [(mx, .inr (4, [.int th, .long sd, .int nt, .ref ro, .ref pl, .ref vl, .int (nI f), .ref pa, .ref pr])), (pa, .inl (cL, 240, .inr (.inl g)))] → va_S A s.heap H locs → lv_has ls 8 [(0, .ref mx), (1, .int (nI a)), (2, .int (nI b)), (3, .int (nI n9 + (-1)))] → W p l e R s m args below meth c H locs cells slots Q (F0 m 3 ls []) := by
  obtain ⟨hx, hb, hr, hml, hts, hown, hlocks, hnm⟩ := id hF
  have hown : s.vm.findClass R_M = some m.cls := hown
  have ha : ∀ w ∈ al_M, w.before args s = true := fun w h => hts w (List.mem_cons_of_mem _ h)
  intro n9
  induction n9 with
  | zero =>
    intro i hi hinv H locs ls hP hD hS hl
    obtain rfl : 24 = i := by omega
    refine lv_iload_n hx hb d_M_against_3 rfl (lv_at hl 3 rfl) ?_
    refine lv_if_lt (tgt := 61) hx hb d_M_against_4 (by decide) (fun hc => ?_) (fun hc => ?_)
    · exact K hinv _ _ _ hP hD hS (lv_sub hl [0, 1, 2, 3] rfl)
    · exact absurd (by decide) hc
  | succ n9 ih =>
    intro i hi hinv H locs ls hP hD hS hl
    have hlt : i < 24 := by omega
    rw [pk_m1] at hl
    refine lv_iload_n hx hb d_M_against_3 rfl (lv_at hl 3 rfl) ?_
    refine lv_if_lt (tgt := 61) hx hb d_M_against_4 (by decide) (fun hc => ?_) (fun hc => ?_)
    · exact absurd hc (nI_pos (by omega))
    · refine lv_aload_n hx hb d_M_against_7 rfl (lv_at hl 0 rfl) ?_
      refine va_get (D := (dC, dI)) (ci := 4) (v := .ref pa) (C := R_M) (T := F_M) (N := 9) hx hb ha ui_M hown hK hP 0 rfl rfl 7 (by decide) (ha _ wm_M_12) (fun _ h9 => h9) rfl d_M_against_8 ?_
      refine lv_bipush (v := 24) hx hb d_M_against_11 (by decide) ?_
      refine lv_iload_n hx hb d_M_against_13 rfl (lv_at hl 1 rfl) ?_
      refine lv_imul hx hb d_M_against_14 ?_
      refine lv_iload_n hx hb d_M_against_15 rfl (lv_at hl 3 rfl) ?_
      refine lv_iadd hx hb d_M_against_16 ?_
      refine ct_lald hx hb hK hP 1 0 rfl rfl (24 * a + n9) (md_ix a n9) (by omega) (by omega) d_M_against_17 ?_
      refine lv_lstore (lv' := [(4, .long (g (24 * a + n9))), (0, .ref mx), (1, .int (nI a)), (2, .int (nI b)), (3, .int (nI n9))]) hx hb d_M_against_18 hl (by decide) rfl (fun ls hl => ?_)
      refine lv_aload_n hx hb d_M_against_20 rfl (lv_at hl 1 rfl) ?_
      refine va_get (D := (dC, dI)) (ci := 4) (v := .ref pa) (C := R_M) (T := F_M) (N := 9) hx hb ha ui_M hown hK hP 0 rfl rfl 7 (by decide) (ha _ wm_M_12) (fun _ h9 => h9) rfl d_M_against_21 ?_
      refine lv_bipush (v := 24) hx hb d_M_against_24 (by decide) ?_
      refine lv_iload_n hx hb d_M_against_26 rfl (lv_at hl 3 rfl) ?_
      refine lv_imul hx hb d_M_against_27 ?_
      refine lv_iload_n hx hb d_M_against_28 rfl (lv_at hl 4 rfl) ?_
      refine lv_iadd hx hb d_M_against_29 ?_
      refine ct_lald hx hb hK hP 1 0 rfl rfl (24 * b + n9) (md_ix b n9) (by omega) (by omega) d_M_against_30 ?_
      refine lv_lstore (lv' := [(6, .long (g (24 * b + n9))), (4, .long (g (24 * a + n9))), (0, .ref mx), (1, .int (nI a)), (2, .int (nI b)), (3, .int (nI n9))]) hx hb d_M_against_31 hl (by decide) rfl (fun ls hl => ?_)
      refine lv_lload hx hb d_M_against_33 (lv_at hl 1 rfl) ?_
      refine lv_lload hx hb d_M_against_35 (lv_at hl 0 rfl) ?_
      refine ct_jeq (tgt := 55) hx hb d_M_against_37 d_M_against_38 (by decide) (fun hz => ?_) (fun hz => ?_)
      · refine lv_iinc (v := ((nI n9) + (-1))) (lv' := [(3, .int ((nI n9) + (-1))), (6, .long (g (24 * b + n9))), (4, .long (g (24 * a + n9))), (0, .ref mx), (1, .int (nI a)), (2, .int (nI b))]) hx hb d_M_against_55 hl (k := 5) rfl (rfl) (by decide) rfl (fun ls hl => ?_)
        refine lv_goto (tgt := 3) hx hb d_M_against_58 (by decide) ?_
        exact ih (i + 1) (by omega) (hinv.trans (if_pos hz)) _ _ _ hP hD hS (lv_sub hl [3, 4, 5, 0] rfl)
      · exact Kx n9 (by omega) hz hinv _ _ _ hP hD hS (lv_sub hl [1, 0] rfl)
set_option maxHeartbeats 4000000 in
set_option maxRecDepth 100000 in
/-- register a against b -/
theorem c_M_against (l : Launch) (dC : Nat → ClassId) (dI : Nat → Nat → Nat) (mx : Nat) (th : Int32) (sd : Int64) (nt : Int32) (ro : Nat) (pl : Nat) (vl : Nat) (f : Nat) (pa : Nat) (pr : Nat) (cL : ClassId) (g : Nat → Int64) (a b : Nat) (hr9 : a < 10) (ha9 : b < 10) (sz : Nat) : ct_I l y_M_against w_M_against { frames := 0, cells := 0, slots := 0, locals := 0 } (dC, dI) cl9 [(cL, .long)] ct_G0 [.ref mx, .int (nI a), .int (nI b)] [(mx, .inr (4, [.int th, .long sd, .int nt, .ref ro, .ref pl, .ref vl, .int (nI f), .ref pa, .ref pr])), (pa, .inl (cL, 240, .inr (.inl g)))] sz (S := Unit) (fun z _ => z = md_ag a b g 24) (fun _ : Unit => [(cL, .long)]) (fun _ => [(mx, .inr (4, [.int th, .long sd, .int nt, .ref ro, .ref pl, .ref vl, .int (nI f), .ref pa, .ref pr])), (pa, .inl (cL, 240, .inr (.inl g)))]) 0 0 := by
  refine ct_of (Qf := fun A => va_Qi (fun z _ => z = md_ag a b g 24) (ct_B (S := Unit) (dC, dI) cl9 (fun _ : Unit => [(cL, .long)]) A (fun _ => [(mx, .inr (4, [.int th, .long sd, .int nt, .ref ro, .ref pl, .ref vl, .int (nI f), .ref pa, .ref pr])), (pa, .inl (cL, 240, .inr (.inl g)))])) A) (cc := b_M_against) (maxL := 8) (ret := ((some .int))) (by decide) rfl (Nat.le_of_ble_eq_true rfl) ?_
  intro p e s m below meth c A ls hF hA hP hK hD hG hS hl
  obtain ⟨hx, hb, hr, hml, hts, hown, hlocks, hnm⟩ := id hF
  have hown : s.vm.findClass R_M = some m.cls := hown
  have ha : ∀ w ∈ al_M, w.before [.ref mx, .int (nI a), .int (nI b)].toArray s = true := fun w h => hts w (List.mem_cons_of_mem _ h)
  have hl : lv_has ls 8 [(0, .ref mx), (1, .int (nI a)), (2, .int (nI b))] := hl
  refine lv_bipush (v := 23) hx hb d_M_against_0 (by decide) ?_
  refine lv_istore_n (lv' := [(3, .int 23), (0, .ref mx), (1, .int (nI a)), (2, .int (nI b))]) hx hb d_M_against_2 rfl hl (by decide) rfl (fun ls hl => ?_)
  refine lp_M_against (mx := mx) (th := th) (sd := sd) (nt := nt) (ro := ro) (pl := pl) (vl := vl) (f := f) (pa := pa) (pr := pr) (cL := cL) (g := g) (a := a) (b := b) hF hA hK hr9 ha9 (fun n9 hi hz he H locs ls hP hD hS hl => ?_) (fun hinv H locs ls hP hD hS hl => ?_) 24 0 (by omega) rfl _ _ _ hP hD hS (lv_sub hl [1, 2, 3, 0] rfl)
  · refine lv_lload hx hb d_M_against_41 (lv_at hl 0 rfl) ?_
    refine lv_lload hx hb d_M_against_43 (lv_at hl 1 rfl) ?_
    refine ct_jle (tgt := 53) hx hb d_M_against_45 d_M_against_46 (by decide) (fun hc => ?_) (fun hc => ?_)
    · refine lv_iconst (v := -1) hx hb d_M_against_53 (by decide) ?_
      exact ct_iret hF d_M_against_54 () (he.trans ((if_neg hz).trans (if_neg (fun q => ct_nlt hc q)))).symm (hP.sub [0, 1] rfl) (hD.sub [0, 1] (by decide) rfl) hK hS
    · refine lv_iconst (v := 1) hx hb d_M_against_49 (by decide) ?_
      refine lv_goto (tgt := 54) hx hb d_M_against_50 (by decide) ?_
      exact ct_iret hF d_M_against_54 () (he.trans ((if_neg hz).trans (if_pos (Int64.not_le.mp hc)))).symm (hP.sub [0, 1] rfl) (hD.sub [0, 1] (by decide) rfl) hK hS
  · refine lv_iconst (v := 0) hx hb d_M_against_61 (by decide) ?_
    exact ct_iret hF d_M_against_62 () hinv.symm (hP.sub [0, 1] rfl) (hD.sub [0, 1] (by decide) rfl) hK hS
set_option maxHeartbeats 4000000 in
set_option maxRecDepth 100000 in
/-- before's loop -/
theorem lp_M_before {p : Program} {l : Launch} {e : Env} {R : Room} {s : State} {m : MethodId} {args : Array Value} {below : List Frame} {meth : Method} {c : Code} {Q : State → Prop} {A : Nat → Prop} {cells slots : Nat} {dC : Nat → ClassId} {dI : Nat → Nat → Nat} {mx : Nat} {th : Int32} {sd : Int64} {nt : Int32} {ro : Nat} {pl : Nat} {vl : Nat} {f : Nat} {pa : Nat} {pr : Nat} {cL : ClassId} {g : Nat → Int64} {r : Nat} (hF : ct_F p s m meth c b_M_before ((some .long)) 5 w_M_before y_M_before args) (hA : ∀ q, s.heap.size ≤ q → A q) (hK : va_K (dC, dI) cl9 [(cL, .long)] s) (hr9 : r < 10) (hf9 : f ≤ 24)
    (K : ∀ (H : Heap) (locs : List Loc) (ls : Array Slot), va_P (dC, dI) cl9 [(mx, .inr (4, [.int th, .long sd, .int nt, .ref ro, .ref pl, .ref vl, .int (nI f), .ref pa, .ref pr])), (pa, .inl (cL, 240, .inr (.inl g)))] H → va_D A [(mx, .inr (4, [.int th, .long sd, .int nt, .ref ro, .ref pl, .ref vl, .int (nI f), .ref pa, .ref pr])), (pa, .inl (cL, 240, .inr (.inl g)))] → va_S A s.heap H locs → lv_has ls 5 [(0, .ref mx), (1, .int (nI r)), (2, .long (md_be r g (24 - f))), (4, .int (nI (f + 0) + (-1)))] → W p l e R s m args below meth c H locs cells slots Q (F0 m 40 ls [])) :
    ∀ (n9 i : Nat), i + n9 = (24 - f) → ∀ (H : Heap) (locs : List Loc) (ls : Array Slot), va_P (dC, dI) cl9 [(mx, .inr (4, [.int th, .long sd, .int nt, .ref ro, .ref pl, .ref vl, .int (nI f), .ref pa, .ref pr])), (pa, .inl (cL, 240, .inr (.inl g)))] H → va_D A [(mx, .inr (4, [.int th, .long sd, .int nt, .ref ro, .ref pl, .ref vl, .int (nI f), .ref pa, .ref pr])), (pa, .inl (cL, 240, .inr (.inl g)))] → va_S A s.heap H locs → lv_has ls 5 [(0, .ref mx), (1, .int (nI r)), (2, .long (md_be r g i)), (4, .int (nI (f + n9) + (-1)))] → W p l e R s m args below meth c H locs cells slots Q (F0 m 6 ls []) := by
  obtain ⟨hx, hb, hr, hml, hts, hown, hlocks, hnm⟩ := id hF
  have hown : s.vm.findClass R_M = some m.cls := hown
  have ha : ∀ w ∈ al_M, w.before args s = true := fun w h => hts w (List.mem_cons_of_mem _ h)
  intro n9
  induction n9 with
  | zero =>
    intro i hi H locs ls hP hD hS hl
    obtain rfl : (24 - f) = i := by omega
    refine lv_iload hx hb d_M_before_6 (lv_at hl 3 rfl) ?_
    refine lv_aload_n hx hb d_M_before_8 rfl (lv_at hl 0 rfl) ?_
    refine va_get (D := (dC, dI)) (ci := 4) (v := .int (nI f)) (C := R_M) (T := F_M) (N := 9) hx hb ha ui_M hown hK hP 0 rfl rfl 6 (by decide) (ha _ wm_M_11) (fun _ h9 => h9) rfl d_M_before_9 ?_
    refine lv_icmp_lt (tgt := 40) hx hb d_M_before_12 (by decide) (fun hc => ?_) (fun hc => ?_)
    · exact K _ _ _ hP hD hS (lv_sub hl [0, 1, 2, 3] rfl)
    · exact absurd (md_m1lt f (by omega)) hc
  | succ n9 ih =>
    intro i hi H locs ls hP hD hS hl
    have hlt : i < (24 - f) := by omega
    have e7 : nI (f + (n9 + 1)) + (-1) = nI (f + n9) := pk_m1 (f + n9)
    rw [e7] at hl
    refine lv_iload hx hb d_M_before_6 (lv_at hl 3 rfl) ?_
    refine lv_aload_n hx hb d_M_before_8 rfl (lv_at hl 0 rfl) ?_
    refine va_get (D := (dC, dI)) (ci := 4) (v := .int (nI f)) (C := R_M) (T := F_M) (N := 9) hx hb ha ui_M hown hK hP 0 rfl rfl 6 (by decide) (ha _ wm_M_11) (fun _ h9 => h9) rfl d_M_before_9 ?_
    refine lv_icmp_lt (tgt := 40) hx hb d_M_before_12 (by decide) (fun hc => ?_) (fun hc => ?_)
    · exact absurd (show nI (f + n9) < nI f from hc) (nI_nlt (by omega) (by omega))
    · have ek : f + n9 = 23 - i := by omega
      refine lv_lload_n hx hb d_M_before_15 rfl (lv_at hl 2 rfl) ?_
      refine lv_ldc2 (v := 1000000) hx hb hown (ha _ wm_M_32) d_M_before_16 ?_
      refine lv_lmul hx hb d_M_before_19 ?_
      refine lv_aload_n hx hb d_M_before_20 rfl (lv_at hl 0 rfl) ?_
      refine va_get (D := (dC, dI)) (ci := 4) (v := .ref pa) (C := R_M) (T := F_M) (N := 9) hx hb ha ui_M hown hK hP 0 rfl rfl 7 (by decide) (ha _ wm_M_12) (fun _ h9 => h9) rfl d_M_before_21 ?_
      refine lv_bipush (v := 24) hx hb d_M_before_24 (by decide) ?_
      refine lv_iload_n hx hb d_M_before_26 rfl (lv_at hl 1 rfl) ?_
      refine lv_imul hx hb d_M_before_27 ?_
      refine lv_iload hx hb d_M_before_28 (lv_at hl 3 rfl) ?_
      refine lv_iadd hx hb d_M_before_30 ?_
      refine ct_lald hx hb hK hP 1 0 rfl rfl (24 * r + (f + n9)) (md_ix r (f + n9)) (by omega) (by omega) d_M_before_31 ?_
      refine lv_ladd hx hb d_M_before_32 ?_
      refine lv_lstore_n (lv' := [(2, .long (((md_be r g i) * 1000000) + (g (24 * r + (f + n9))))), (0, .ref mx), (1, .int (nI r)), (4, .int (nI (f + n9)))]) hx hb d_M_before_33 rfl hl (by decide) rfl (fun ls hl => ?_)
      refine lv_iinc (v := ((nI (f + n9)) + (-1))) (lv' := [(4, .int ((nI (f + n9)) + (-1))), (2, .long (((md_be r g i) * 1000000) + (g (24 * r + (f + n9))))), (0, .ref mx), (1, .int (nI r))]) hx hb d_M_before_34 hl (k := 3) rfl (rfl) (by decide) rfl (fun ls hl => ?_)
      refine lv_goto (tgt := 6) hx hb d_M_before_37 (by decide) ?_
      have e8 : md_be r g (i + 1) = md_be r g i * 1000000 + g (24 * r + (f + n9)) := by rw [ek]; rfl
      have hl : lv_has ls 5 [(4, .int ((nI (f + n9)) + (-1))), (2, .long (md_be r g (i + 1))), (0, .ref mx), (1, .int (nI r))] := by rw [e8]; exact hl
      exact ih (i + 1) (by omega) _ _ _ hP hD hS (lv_sub hl [2, 3, 1, 0] rfl)
set_option maxHeartbeats 4000000 in
set_option maxRecDepth 100000 in
/-- what is before the point -/
theorem c_M_before (l : Launch) (dC : Nat → ClassId) (dI : Nat → Nat → Nat) (mx : Nat) (th : Int32) (sd : Int64) (nt : Int32) (ro : Nat) (pl : Nat) (vl : Nat) (f : Nat) (pa : Nat) (pr : Nat) (cL : ClassId) (g : Nat → Int64) (r : Nat) (hr9 : r < 10) (hf9 : f ≤ 24) (sz : Nat) : ct_L l y_M_before w_M_before { frames := 0, cells := 0, slots := 0, locals := 0 } (dC, dI) cl9 [(cL, .long)] ct_G0 [.ref mx, .int (nI r)] [(mx, .inr (4, [.int th, .long sd, .int nt, .ref ro, .ref pl, .ref vl, .int (nI f), .ref pa, .ref pr])), (pa, .inl (cL, 240, .inr (.inl g)))] sz (S := Unit) (fun z _ => z = md_be r g (24 - f)) (fun _ : Unit => [(cL, .long)]) (fun _ => [(mx, .inr (4, [.int th, .long sd, .int nt, .ref ro, .ref pl, .ref vl, .int (nI f), .ref pa, .ref pr])), (pa, .inl (cL, 240, .inr (.inl g)))]) 0 0 := by
  refine ct_of (Qf := fun A => va_Ql (fun z _ => z = md_be r g (24 - f)) (ct_B (S := Unit) (dC, dI) cl9 (fun _ : Unit => [(cL, .long)]) A (fun _ => [(mx, .inr (4, [.int th, .long sd, .int nt, .ref ro, .ref pl, .ref vl, .int (nI f), .ref pa, .ref pr])), (pa, .inl (cL, 240, .inr (.inl g)))])) A) (cc := b_M_before) (maxL := 5) (ret := ((some .long))) (by decide) rfl (Nat.le_of_ble_eq_true rfl) ?_
  intro p e s m below meth c A ls hF hA hP hK hD hG hS hl
  obtain ⟨hx, hb, hr, hml, hts, hown, hlocks, hnm⟩ := id hF
  have hown : s.vm.findClass R_M = some m.cls := hown
  have ha : ∀ w ∈ al_M, w.before [.ref mx, .int (nI r)].toArray s = true := fun w h => hts w (List.mem_cons_of_mem _ h)
  have hl : lv_has ls 5 [(0, .ref mx), (1, .int (nI r))] := hl
  refine lv_lconst (v := 0) hx hb d_M_before_0 (by decide) ?_
  refine lv_lstore_n (lv' := [(2, .long 0), (0, .ref mx), (1, .int (nI r))]) hx hb d_M_before_1 rfl hl (by decide) rfl (fun ls hl => ?_)
  refine lv_bipush (v := 23) hx hb d_M_before_2 (by decide) ?_
  refine lv_istore (lv' := [(4, .int 23), (2, .long 0), (0, .ref mx), (1, .int (nI r))]) hx hb d_M_before_4 hl (by decide) rfl (fun ls hl => ?_)
  have e23 : (23 : Int32) = nI (f + (24 - f)) + (-1) := by rw [show f + (24 - f) = 23 + 1 by omega, pk_m1]; rfl
  rw [e23] at hl
  refine lp_M_before (mx := mx) (th := th) (sd := sd) (nt := nt) (ro := ro) (pl := pl) (vl := vl) (f := f) (pa := pa) (pr := pr) (cL := cL) (g := g) (r := r) hF hA hK hr9 hf9 (fun H locs ls hP hD hS hl => ?_) (24 - f) 0 (by omega) _ _ _ hP hD hS (lv_sub hl [2, 3, 1, 0] rfl)
  refine lv_lload_n hx hb d_M_before_40 rfl (lv_at hl 2 rfl) ?_
  exact ct_lret hF d_M_before_41 () rfl (hP.sub [0, 1] rfl) (hD.sub [0, 1] (by decide) rfl) hK hS
