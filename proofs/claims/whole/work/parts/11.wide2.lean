theorem ct_nlt {x y : Int64} (h1 : x ≤ y) (h2 : y < x) : False := by rw [Int64.le_iff_toInt_le] at h1; rw [Int64.lt_iff_toInt_lt] at h2; omega
set_option maxHeartbeats 4000000 in
set_option maxRecDepth 100000 in
/-- divide's loop, from the highest limb down -/
theorem lp_W_divide {p : Program} {l : Launch} {e : Env} {R : Room} {s : State} {m : MethodId} {args : Array Value} {below : List Frame} {meth : Method} {c : Code} {Q : State → Prop} {A : Nat → Prop} {cells slots : Nat} {dC : Nat → ClassId} {dI : Nat → Nat → Nat} {h0 : Nat} {a0 : Nat} {b0 : Nat} {cL : ClassId} {f : Nat → Int64} {q : Int64} (hF : ct_F p s m meth c b_W_divide none 14 w_W_divide y_W_divide args) (hA : ∀ q, s.heap.size ≤ q → A q) (hK : va_K (dC, dI) cl9 [(cL, .long)] s) (hq : ¬ q = 0)
    (K : ∀ (H : Heap) (locs : List Loc) (ls : Array Slot), va_P (dC, dI) cl9 [(h0, .inr (0, [.ref a0, .ref b0])), (a0, .inl (cL, 7, .inr (.inl ((wd_dvs f q 7).1))))] H → va_D A [(h0, .inr (0, [.ref a0, .ref b0])), (a0, .inl (cL, 7, .inr (.inl ((wd_dvs f q 7).1))))] → va_S A s.heap H locs → lv_has ls 14 [(0, .ref h0), (1, .long q), (3, .long ((wd_dvs f q 7).2)), (5, .int (nI 0 + (-1)))] → W p l e R s m args below meth c H locs cells slots Q (F0 m 108 ls [])) :
    ∀ (n9 i : Nat), i + n9 = 7 → ∀ (H : Heap) (locs : List Loc) (ls : Array Slot), va_P (dC, dI) cl9 [(h0, .inr (0, [.ref a0, .ref b0])), (a0, .inl (cL, 7, .inr (.inl ((wd_dvs f q i).1))))] H → va_D A [(h0, .inr (0, [.ref a0, .ref b0])), (a0, .inl (cL, 7, .inr (.inl ((wd_dvs f q i).1))))] → va_S A s.heap H locs → lv_has ls 14 [(0, .ref h0), (1, .long q), (3, .long ((wd_dvs f q i).2)), (5, .int (nI n9 + (-1)))] → W p l e R s m args below meth c H locs cells slots Q (F0 m 21 ls []) := by
  obtain ⟨hx, hb, hr, hml, hts, hown, hlocks, hnm⟩ := id hF
  have hown : s.vm.findClass R_W = some m.cls := hown
  have ha : ∀ w ∈ al_W, w.before args s = true := fun w h => hts w (List.mem_cons_of_mem _ h)
  intro n9
  induction n9 with
  | zero =>
    intro i hi H locs ls hP hD hS hl
    obtain rfl : 7 = i := by omega
    refine lv_iload hx hb d_W_divide_21 (lv_at hl 3 rfl) ?_
    refine lv_if_lt (tgt := 108) hx hb d_W_divide_23 (by decide) (fun hc => ?_) (fun hc => ?_)
    · exact K _ _ _ hP hD hS (lv_sub hl [0, 1, 2, 3] rfl)
    · exact absurd (by decide) hc
  | succ n9 ih =>
    intro i hi H locs ls hP hD hS hl
    have hlt : i < 7 := by omega
    obtain rfl : n9 = 6 - i := by omega
    rw [pk_m1] at hl
    refine lv_iload hx hb d_W_divide_21 (lv_at hl 3 rfl) ?_
    refine lv_if_lt (tgt := 108) hx hb d_W_divide_23 (by decide) (fun hc => ?_) (fun hc => ?_)
    · exact absurd hc (nI_pos (by omega))
    · refine lv_lload_n hx hb d_W_divide_26 rfl (lv_at hl 2 rfl) ?_
      refine lv_bipush (v := 16) hx hb d_W_divide_27 (by decide) ?_
      refine lv_lshl (v := (pu_sl ((wd_dvs f q i).2) 16)) hx hb d_W_divide_29 rfl ?_
      refine lv_aload_n hx hb d_W_divide_30 rfl (lv_at hl 0 rfl) ?_
      refine va_get (D := (dC, dI)) (ci := 0) (v := .ref a0) (C := R_W) (T := F_W) (N := 2) hx hb ha ui_W hown hK hP 0 rfl rfl 0 (by decide) (ha _ wm_W_5) (fun _ h9 => h9) rfl d_W_divide_31 ?_
      refine lv_iload hx hb d_W_divide_34 (lv_at hl 3 rfl) ?_
      refine ct_lald hx hb hK hP 1 0 rfl rfl (6 - i) rfl (by omega) (by omega) d_W_divide_36 ?_
      refine lv_bipush (v := 16) hx hb d_W_divide_37 (by decide) ?_
      refine lv_lushr (v := (pu_us (((wd_dvs f q i).1) (6 - i)) 16)) hx hb d_W_divide_39 rfl ?_
      refine lv_lor hx hb d_W_divide_40 ?_
      refine lv_lstore (lv' := [(6, .long ((pu_sl ((wd_dvs f q i).2) 16) ||| (pu_us (((wd_dvs f q i).1) (6 - i)) 16))), (0, .ref h0), (1, .long q), (3, .long ((wd_dvs f q i).2)), (5, .int (nI (6 - i)))]) hx hb d_W_divide_41 hl (by decide) rfl (fun ls hl => ?_)
      refine lv_lload hx hb d_W_divide_43 (lv_at hl 0 rfl) ?_
      refine lv_lload_n hx hb d_W_divide_45 rfl (lv_at hl 2 rfl) ?_
      refine lv_ldiv hx hb d_W_divide_46 hq ?_
      refine lv_lstore (lv' := [(8, .long (((pu_sl ((wd_dvs f q i).2) 16) ||| (pu_us (((wd_dvs f q i).1) (6 - i)) 16)) / q)), (6, .long ((pu_sl ((wd_dvs f q i).2) 16) ||| (pu_us (((wd_dvs f q i).1) (6 - i)) 16))), (0, .ref h0), (1, .long q), (3, .long ((wd_dvs f q i).2)), (5, .int (nI (6 - i)))]) hx hb d_W_divide_47 hl (by decide) rfl (fun ls hl => ?_)
      refine lv_lload hx hb d_W_divide_49 (lv_at hl 1 rfl) ?_
      refine lv_lload hx hb d_W_divide_51 (lv_at hl 0 rfl) ?_
      refine lv_lload_n hx hb d_W_divide_53 rfl (lv_at hl 3 rfl) ?_
      refine lv_lmul hx hb d_W_divide_54 ?_
      refine lv_lsub hx hb d_W_divide_55 ?_
      refine lv_bipush (v := 16) hx hb d_W_divide_56 (by decide) ?_
      refine lv_lshl (v := (pu_sl (((pu_sl ((wd_dvs f q i).2) 16) ||| (pu_us (((wd_dvs f q i).1) (6 - i)) 16)) - ((((pu_sl ((wd_dvs f q i).2) 16) ||| (pu_us (((wd_dvs f q i).1) (6 - i)) 16)) / q) * q)) 16)) hx hb d_W_divide_58 rfl ?_
      refine lv_aload_n hx hb d_W_divide_59 rfl (lv_at hl 2 rfl) ?_
      refine va_get (D := (dC, dI)) (ci := 0) (v := .ref a0) (C := R_W) (T := F_W) (N := 2) hx hb ha ui_W hown hK hP 0 rfl rfl 0 (by decide) (ha _ wm_W_5) (fun _ h9 => h9) rfl d_W_divide_60 ?_
      refine lv_iload hx hb d_W_divide_63 (lv_at hl 5 rfl) ?_
      refine ct_lald hx hb hK hP 1 0 rfl rfl (6 - i) rfl (by omega) (by omega) d_W_divide_65 ?_
      refine lv_ldc2 (v := 65535) hx hb hown (ha _ wm_W_24) d_W_divide_66 ?_
      refine lv_land hx hb d_W_divide_69 ?_
      refine lv_lor hx hb d_W_divide_70 ?_
      refine lv_lstore (lv' := [(10, .long ((pu_sl (((pu_sl ((wd_dvs f q i).2) 16) ||| (pu_us (((wd_dvs f q i).1) (6 - i)) 16)) - ((((pu_sl ((wd_dvs f q i).2) 16) ||| (pu_us (((wd_dvs f q i).1) (6 - i)) 16)) / q) * q)) 16) ||| ((((wd_dvs f q i).1) (6 - i)) &&& 65535))), (8, .long (((pu_sl ((wd_dvs f q i).2) 16) ||| (pu_us (((wd_dvs f q i).1) (6 - i)) 16)) / q)), (6, .long ((pu_sl ((wd_dvs f q i).2) 16) ||| (pu_us (((wd_dvs f q i).1) (6 - i)) 16))), (0, .ref h0), (1, .long q), (3, .long ((wd_dvs f q i).2)), (5, .int (nI (6 - i)))]) hx hb d_W_divide_71 hl (by decide) rfl (fun ls hl => ?_)
      refine lv_lload hx hb d_W_divide_73 (lv_at hl 0 rfl) ?_
      refine lv_lload_n hx hb d_W_divide_75 rfl (lv_at hl 4 rfl) ?_
      refine lv_ldiv hx hb d_W_divide_76 hq ?_
      refine lv_lstore (lv' := [(12, .long (((pu_sl (((pu_sl ((wd_dvs f q i).2) 16) ||| (pu_us (((wd_dvs f q i).1) (6 - i)) 16)) - ((((pu_sl ((wd_dvs f q i).2) 16) ||| (pu_us (((wd_dvs f q i).1) (6 - i)) 16)) / q) * q)) 16) ||| ((((wd_dvs f q i).1) (6 - i)) &&& 65535)) / q)), (10, .long ((pu_sl (((pu_sl ((wd_dvs f q i).2) 16) ||| (pu_us (((wd_dvs f q i).1) (6 - i)) 16)) - ((((pu_sl ((wd_dvs f q i).2) 16) ||| (pu_us (((wd_dvs f q i).1) (6 - i)) 16)) / q) * q)) 16) ||| ((((wd_dvs f q i).1) (6 - i)) &&& 65535))), (8, .long (((pu_sl ((wd_dvs f q i).2) 16) ||| (pu_us (((wd_dvs f q i).1) (6 - i)) 16)) / q)), (6, .long ((pu_sl ((wd_dvs f q i).2) 16) ||| (pu_us (((wd_dvs f q i).1) (6 - i)) 16))), (0, .ref h0), (1, .long q), (3, .long ((wd_dvs f q i).2)), (5, .int (nI (6 - i)))]) hx hb d_W_divide_77 hl (by decide) rfl (fun ls hl => ?_)
      refine lv_lload hx hb d_W_divide_79 (lv_at hl 1 rfl) ?_
      refine lv_lload hx hb d_W_divide_81 (lv_at hl 0 rfl) ?_
      refine lv_lload_n hx hb d_W_divide_83 rfl (lv_at hl 5 rfl) ?_
      refine lv_lmul hx hb d_W_divide_84 ?_
      refine lv_lsub hx hb d_W_divide_85 ?_
      refine lv_lstore_n (lv' := [(3, .long (((pu_sl (((pu_sl ((wd_dvs f q i).2) 16) ||| (pu_us (((wd_dvs f q i).1) (6 - i)) 16)) - ((((pu_sl ((wd_dvs f q i).2) 16) ||| (pu_us (((wd_dvs f q i).1) (6 - i)) 16)) / q) * q)) 16) ||| ((((wd_dvs f q i).1) (6 - i)) &&& 65535)) - ((((pu_sl (((pu_sl ((wd_dvs f q i).2) 16) ||| (pu_us (((wd_dvs f q i).1) (6 - i)) 16)) - ((((pu_sl ((wd_dvs f q i).2) 16) ||| (pu_us (((wd_dvs f q i).1) (6 - i)) 16)) / q) * q)) 16) ||| ((((wd_dvs f q i).1) (6 - i)) &&& 65535)) / q) * q))), (12, .long (((pu_sl (((pu_sl ((wd_dvs f q i).2) 16) ||| (pu_us (((wd_dvs f q i).1) (6 - i)) 16)) - ((((pu_sl ((wd_dvs f q i).2) 16) ||| (pu_us (((wd_dvs f q i).1) (6 - i)) 16)) / q) * q)) 16) ||| ((((wd_dvs f q i).1) (6 - i)) &&& 65535)) / q)), (10, .long ((pu_sl (((pu_sl ((wd_dvs f q i).2) 16) ||| (pu_us (((wd_dvs f q i).1) (6 - i)) 16)) - ((((pu_sl ((wd_dvs f q i).2) 16) ||| (pu_us (((wd_dvs f q i).1) (6 - i)) 16)) / q) * q)) 16) ||| ((((wd_dvs f q i).1) (6 - i)) &&& 65535))), (8, .long (((pu_sl ((wd_dvs f q i).2) 16) ||| (pu_us (((wd_dvs f q i).1) (6 - i)) 16)) / q)), (6, .long ((pu_sl ((wd_dvs f q i).2) 16) ||| (pu_us (((wd_dvs f q i).1) (6 - i)) 16))), (0, .ref h0), (1, .long q), (5, .int (nI (6 - i)))]) hx hb d_W_divide_86 rfl hl (by decide) rfl (fun ls hl => ?_)
      refine lv_aload_n hx hb d_W_divide_87 rfl (lv_at hl 5 rfl) ?_
      refine va_get (D := (dC, dI)) (ci := 0) (v := .ref a0) (C := R_W) (T := F_W) (N := 2) hx hb ha ui_W hown hK hP 0 rfl rfl 0 (by decide) (ha _ wm_W_5) (fun _ h9 => h9) rfl d_W_divide_88 ?_
      refine lv_iload hx hb d_W_divide_91 (lv_at hl 7 rfl) ?_
      refine lv_lload hx hb d_W_divide_93 (lv_at hl 3 rfl) ?_
      refine lv_bipush (v := 16) hx hb d_W_divide_95 (by decide) ?_
      refine lv_lshl (v := (pu_sl (((pu_sl ((wd_dvs f q i).2) 16) ||| (pu_us (((wd_dvs f q i).1) (6 - i)) 16)) / q) 16)) hx hb d_W_divide_97 rfl ?_
      refine lv_lload hx hb d_W_divide_98 (lv_at hl 1 rfl) ?_
      refine lv_lor hx hb d_W_divide_100 ?_
      refine ct_last hx hb hK hP hD hS 1 0 rfl rfl (6 - i) rfl (by omega) (by omega) d_W_divide_101 (fun H locs hP hD hS => ?_)
      have hP : va_P (dC, dI) cl9 [(h0, .inr (0, [.ref a0, .ref b0])), (a0, .inl (cL, 7, .inr (.inl (vp_updL ((wd_dvs f q i).1) (6 - i) ((pu_sl (((pu_sl ((wd_dvs f q i).2) 16) ||| (pu_us (((wd_dvs f q i).1) (6 - i)) 16)) / q) 16) ||| (((pu_sl (((pu_sl ((wd_dvs f q i).2) 16) ||| (pu_us (((wd_dvs f q i).1) (6 - i)) 16)) - ((((pu_sl ((wd_dvs f q i).2) 16) ||| (pu_us (((wd_dvs f q i).1) (6 - i)) 16)) / q) * q)) 16) ||| ((((wd_dvs f q i).1) (6 - i)) &&& 65535)) / q))))))] H := hP
      have hD : va_D A [(h0, .inr (0, [.ref a0, .ref b0])), (a0, .inl (cL, 7, .inr (.inl (vp_updL ((wd_dvs f q i).1) (6 - i) ((pu_sl (((pu_sl ((wd_dvs f q i).2) 16) ||| (pu_us (((wd_dvs f q i).1) (6 - i)) 16)) / q) 16) ||| (((pu_sl (((pu_sl ((wd_dvs f q i).2) 16) ||| (pu_us (((wd_dvs f q i).1) (6 - i)) 16)) - ((((pu_sl ((wd_dvs f q i).2) 16) ||| (pu_us (((wd_dvs f q i).1) (6 - i)) 16)) / q) * q)) 16) ||| ((((wd_dvs f q i).1) (6 - i)) &&& 65535)) / q))))))] := hD
      refine lv_iinc (v := ((nI (6 - i)) + (-1))) (lv' := [(5, .int ((nI (6 - i)) + (-1))), (3, .long (((pu_sl (((pu_sl ((wd_dvs f q i).2) 16) ||| (pu_us (((wd_dvs f q i).1) (6 - i)) 16)) - ((((pu_sl ((wd_dvs f q i).2) 16) ||| (pu_us (((wd_dvs f q i).1) (6 - i)) 16)) / q) * q)) 16) ||| ((((wd_dvs f q i).1) (6 - i)) &&& 65535)) - ((((pu_sl (((pu_sl ((wd_dvs f q i).2) 16) ||| (pu_us (((wd_dvs f q i).1) (6 - i)) 16)) - ((((pu_sl ((wd_dvs f q i).2) 16) ||| (pu_us (((wd_dvs f q i).1) (6 - i)) 16)) / q) * q)) 16) ||| ((((wd_dvs f q i).1) (6 - i)) &&& 65535)) / q) * q))), (12, .long (((pu_sl (((pu_sl ((wd_dvs f q i).2) 16) ||| (pu_us (((wd_dvs f q i).1) (6 - i)) 16)) - ((((pu_sl ((wd_dvs f q i).2) 16) ||| (pu_us (((wd_dvs f q i).1) (6 - i)) 16)) / q) * q)) 16) ||| ((((wd_dvs f q i).1) (6 - i)) &&& 65535)) / q)), (10, .long ((pu_sl (((pu_sl ((wd_dvs f q i).2) 16) ||| (pu_us (((wd_dvs f q i).1) (6 - i)) 16)) - ((((pu_sl ((wd_dvs f q i).2) 16) ||| (pu_us (((wd_dvs f q i).1) (6 - i)) 16)) / q) * q)) 16) ||| ((((wd_dvs f q i).1) (6 - i)) &&& 65535))), (8, .long (((pu_sl ((wd_dvs f q i).2) 16) ||| (pu_us (((wd_dvs f q i).1) (6 - i)) 16)) / q)), (6, .long ((pu_sl ((wd_dvs f q i).2) 16) ||| (pu_us (((wd_dvs f q i).1) (6 - i)) 16))), (0, .ref h0), (1, .long q)]) hx hb d_W_divide_102 hl (k := 7) rfl (rfl) (by decide) rfl (fun ls hl => ?_)
      refine lv_goto (tgt := 21) hx hb d_W_divide_105 (by decide) ?_
      exact ih (i + 1) (by omega) _ _ _ hP hD hS (lv_sub hl [6, 7, 1, 0] rfl)
set_option maxHeartbeats 4000000 in
set_option maxRecDepth 100000 in
/-- this over q, rounded down; as it was where q is out of bounds -/
theorem c_W_divide (l : Launch) (dC : Nat → ClassId) (dI : Nat → Nat → Nat) (h0 a0 b0 : Nat) (cL : ClassId) (f : Nat → Int64) (q : Int64) (sz : Nat) : ct_V l y_W_divide w_W_divide { frames := 0, cells := 0, slots := 0, locals := 0 } (dC, dI) cl9 [(cL, .long)] ct_G0 [.ref h0, .long q] [(h0, .inr (0, [.ref a0, .ref b0])), (a0, .inl (cL, 7, .inr (.inl f)))] sz (S := Nat → Int64) (fun u : Nat → Int64 => u = wd_div f q) (fun _ : Nat → Int64 => [(cL, .long)]) (fun u : Nat → Int64 => [(h0, .inr (0, [.ref a0, .ref b0])), (a0, .inl (cL, 7, .inr (.inl u)))]) 0 0 := by
  refine ct_of (Qf := fun A => va_Qv (fun u : Nat → Int64 => u = wd_div f q) (ct_B (S := Nat → Int64) (dC, dI) cl9 (fun _ : Nat → Int64 => [(cL, .long)]) A (fun u : Nat → Int64 => [(h0, .inr (0, [.ref a0, .ref b0])), (a0, .inl (cL, 7, .inr (.inl u)))])) A) (cc := b_W_divide) (maxL := 14) (ret := none) (by decide) rfl (Nat.le_of_ble_eq_true rfl) ?_
  intro p e s m below meth c A ls hF hA hP hK hD hG hS hl
  obtain ⟨hx, hb, hr, hml, hts, hown, hlocks, hnm⟩ := id hF
  have hown : s.vm.findClass R_W = some m.cls := hown
  have ha : ∀ w ∈ al_W, w.before [.ref h0, .long q].toArray s = true := fun w h => hts w (List.mem_cons_of_mem _ h)
  have hl : lv_has ls 14 [(0, .ref h0), (1, .long q)] := hl
  refine lv_lload_n hx hb d_W_divide_0 rfl (lv_at hl 1 rfl) ?_
  refine lv_lconst (v := 0) hx hb d_W_divide_1 (by decide) ?_
  refine ct_jle (tgt := 14) hx hb d_W_divide_2 d_W_divide_3 (by decide) (fun h1 => ?_) (fun h1 => ?_)
  · exact ct_vret hF d_W_divide_14 f (if_pos (Or.inl h1)).symm (hP.sub [0, 1] rfl) (hD.sub [0, 1] (by decide) rfl) hK hS
  · refine lv_lload_n hx hb d_W_divide_6 rfl (lv_at hl 1 rfl) ?_
    refine lv_ldc2 (v := 140737488355328) hx hb hown (ha _ wm_W_23) d_W_divide_7 ?_
    refine ct_jlt (tgt := 15) hx hb d_W_divide_10 d_W_divide_11 (by decide) (fun h2 => ?_) (fun h2 => ?_)
    · have hq : ¬ q = 0 := fun e => h1 (by rw [e]; decide)
      refine lv_lconst (v := 0) hx hb d_W_divide_15 (by decide) ?_
      refine lv_lstore_n (lv' := [(3, .long 0), (0, .ref h0), (1, .long q)]) hx hb d_W_divide_16 rfl hl (by decide) rfl (fun ls hl => ?_)
      refine lv_bipush (v := 6) hx hb d_W_divide_17 (by decide) ?_
      refine lv_istore (lv' := [(5, .int 6), (3, .long 0), (0, .ref h0), (1, .long q)]) hx hb d_W_divide_19 hl (by decide) rfl (fun ls hl => ?_)
      refine lp_W_divide (h0 := h0) (a0 := a0) (b0 := b0) (cL := cL) (f := f) (q := q) hF hA hK hq (fun H locs ls hP hD hS hl => ?_) 7 0 (by omega) _ _ _ hP hD hS (lv_sub hl [2, 3, 1, 0] rfl)
      exact ct_vret hF d_W_divide_108 ((wd_dvs f q 7).1) (if_neg (fun z => z.elim h1 (fun z => ct_nlt z h2))).symm (hP.sub [0, 1] rfl) (hD.sub [0, 1] (by decide) rfl) hK hS
    · exact ct_vret hF d_W_divide_14 f (if_pos (Or.inr (Int64.not_lt.mp h2))).symm (hP.sub [0, 1] rfl) (hD.sub [0, 1] (by decide) rfl) hK hS
set_option maxHeartbeats 4000000 in
set_option maxRecDepth 100000 in
/-- x over q, rounded down -/
theorem c_W_loadRatio (l : Launch) (dC : Nat → ClassId) (dI : Nat → Nat → Nat) (h0 a0 b0 : Nat) (cL : ClassId) (f : Nat → Int64) (x q : Int64) (sz : Nat) : ct_V l y_W_loadRatio w_W_loadRatio { frames := 2, cells := 0, slots := 0, locals := 46 } (dC, dI) cl9 [(cL, .long)] ct_G0 [.ref h0, .long x, .long q] [(h0, .inr (0, [.ref a0, .ref b0])), (a0, .inl (cL, 7, .inr (.inl f)))] sz (S := Nat → Int64) (fun u : Nat → Int64 => u = wd_div (wd_load f x) q) (fun _ : Nat → Int64 => [(cL, .long)]) (fun u : Nat → Int64 => [(h0, .inr (0, [.ref a0, .ref b0])), (a0, .inl (cL, 7, .inr (.inl u)))]) 0 0 := by
  refine ct_of (Qf := fun A => va_Qv (fun u : Nat → Int64 => u = wd_div (wd_load f x) q) (ct_B (S := Nat → Int64) (dC, dI) cl9 (fun _ : Nat → Int64 => [(cL, .long)]) A (fun u : Nat → Int64 => [(h0, .inr (0, [.ref a0, .ref b0])), (a0, .inl (cL, 7, .inr (.inl u)))])) A) (cc := b_W_loadRatio) (maxL := 5) (ret := none) (by decide) rfl (Nat.le_of_ble_eq_true rfl) ?_
  intro p e s m below meth c A ls hF hA hP hK hD hG hS hl
  obtain ⟨hx, hb, hr, hml, hts, hown, hlocks, hnm⟩ := id hF
  have hown : s.vm.findClass R_W = some m.cls := hown
  have ha : ∀ w ∈ al_W, w.before [.ref h0, .long x, .long q].toArray s = true := fun w h => hts w (List.mem_cons_of_mem _ h)
  have hl : lv_has ls 5 [(0, .ref h0), (1, .long x), (3, .long q)] := hl
  refine lv_aload_n hx hb d_W_loadRatio_0 rfl (lv_at hl 0 rfl) ?_
  refine lv_lload_n hx hb d_W_loadRatio_1 rfl (lv_at hl 1 rfl) ?_
  refine cs_callv (va_runV (As := [.long x]) (rest := []) ⟨hx, hb, hml, hown, ha⟩ (c_W_load l dC dI h0 a0 b0 cL f x _) (cwV 1 ha g_W_W_load rfl rfl rfl (by decide +kernel) ⟨Nat.le_of_ble_eq_true rfl, Nat.le_of_ble_eq_true rfl⟩) (ct_preV ct_G0ok trivial hK hP hD hS hA [0, 1] rfl (by decide) [0] rfl 0 0 rfl rfl rfl) rfl rfl hl.1 rfl (lv_room (Nat.le_of_ble_eq_true rfl)) d_W_loadRatio_2 ⟨Nat.le_of_ble_eq_true rfl, Nat.le_of_ble_eq_true rfl⟩) hP hD hS hA [0, 1] rfl (by decide) (fun _ => rfl) (fun u H locs hw hP hD hS => ?_)
  have hP : va_P (dC, dI) cl9 [(h0, .inr (0, [.ref a0, .ref b0])), (a0, .inl (cL, 7, .inr (.inl u)))] H := hP
  have hD : va_D A [(h0, .inr (0, [.ref a0, .ref b0])), (a0, .inl (cL, 7, .inr (.inl u)))] := hD
  subst hw
  have hP : va_P (dC, dI) cl9 [(h0, .inr (0, [.ref a0, .ref b0])), (a0, .inl (cL, 7, .inr (.inl (wd_load f x))))] H := hP
  have hD : va_D A [(h0, .inr (0, [.ref a0, .ref b0])), (a0, .inl (cL, 7, .inr (.inl (wd_load f x))))] := hD
  refine lv_aload_n hx hb d_W_loadRatio_5 rfl (lv_at hl 0 rfl) ?_
  refine lv_lload_n hx hb d_W_loadRatio_6 rfl (lv_at hl 2 rfl) ?_
  refine cs_callv (va_runV (As := [.long q]) (rest := []) ⟨hx, hb, hml, hown, ha⟩ (c_W_divide l dC dI h0 a0 b0 cL (wd_load f x) q _) (cwV 1 ha g_W_W_divide rfl rfl rfl (by decide +kernel) ⟨Nat.le_of_ble_eq_true rfl, Nat.le_of_ble_eq_true rfl⟩) (ct_preV ct_G0ok trivial hK hP hD hS hA [0, 1] rfl (by decide) [0] rfl 0 0 rfl rfl rfl) rfl rfl hl.1 rfl (lv_room (Nat.le_of_ble_eq_true rfl)) d_W_loadRatio_7 ⟨Nat.le_of_ble_eq_true rfl, Nat.le_of_ble_eq_true rfl⟩) hP hD hS hA [0, 1] rfl (by decide) (fun _ => rfl) (fun u H locs hw hP hD hS => ?_)
  have hP : va_P (dC, dI) cl9 [(h0, .inr (0, [.ref a0, .ref b0])), (a0, .inl (cL, 7, .inr (.inl u)))] H := hP
  have hD : va_D A [(h0, .inr (0, [.ref a0, .ref b0])), (a0, .inl (cL, 7, .inr (.inl u)))] := hD
  exact ct_vret hF d_W_loadRatio_10 u hw (hP.sub [0, 1] rfl) (hD.sub [0, 1] (by decide) rfl) hK hS
set_option maxHeartbeats 4000000 in
set_option maxRecDepth 100000 in
/-- a row of the product -/
theorem lp_W_mulIn {p : Program} {l : Launch} {e : Env} {R : Room} {s : State} {m : MethodId} {args : Array Value} {below : List Frame} {meth : Method} {c : Code} {Q : State → Prop} {A : Nat → Prop} {cells slots : Nat} {dC : Nat → ClassId} {dI : Nat → Nat → Nat} {h0 : Nat} {a0 : Nat} {b0 : Nat} {h1 : Nat} {a1 : Nat} {b1 : Nat} {cL : ClassId} {f : Nat → Int64} {g : Nat → Int64} {p9 : Nat → Int64} {dr : Nat} {dg : Int64} {i0 : Nat} {j0 : Nat} (hF : ct_F p s m meth c b_W_multiplyAndDrop none 11 w_W_multiplyAndDrop y_W_multiplyAndDrop args) (hA : ∀ q, s.heap.size ≤ q → A q) (hK : va_K (dC, dI) cl9 [(cL, .long)] s) (hi0 : i0 < 7) (hj0 : j0 ≤ 7)
    (K : ∀ (H : Heap) (locs : List Loc) (ls : Array Slot), va_P (dC, dI) cl9 [(h0, .inr (0, [.ref a0, .ref b0])), (a0, .inl (cL, 7, .inr (.inl f))), (b0, .inl (cL, 14, .inr (.inl ((wd_mi dg g i0 j0 p9 (7 - j0)).1)))), (h1, .inr (0, [.ref a1, .ref b1])), (a1, .inl (cL, 7, .inr (.inl g)))] H → va_D A [(h0, .inr (0, [.ref a0, .ref b0])), (a0, .inl (cL, 7, .inr (.inl f))), (b0, .inl (cL, 14, .inr (.inl ((wd_mi dg g i0 j0 p9 (7 - j0)).1)))), (h1, .inr (0, [.ref a1, .ref b1])), (a1, .inl (cL, 7, .inr (.inl g)))] → va_S A s.heap H locs → lv_has ls 11 [(0, .ref h0), (1, .ref h1), (2, .int (nI dr)), (3, .int (nI i0)), (4, .long dg), (6, .long ((wd_mi dg g i0 j0 p9 (7 - j0)).2)), (8, .int (nI (j0 + (7 - j0))))] → W p l e R s m args below meth c H locs cells slots Q (F0 m 108 ls [])) :
    ∀ (n9 i : Nat), i + n9 = (7 - j0) → ∀ (H : Heap) (locs : List Loc) (ls : Array Slot), va_P (dC, dI) cl9 [(h0, .inr (0, [.ref a0, .ref b0])), (a0, .inl (cL, 7, .inr (.inl f))), (b0, .inl (cL, 14, .inr (.inl ((wd_mi dg g i0 j0 p9 i).1)))), (h1, .inr (0, [.ref a1, .ref b1])), (a1, .inl (cL, 7, .inr (.inl g)))] H → va_D A [(h0, .inr (0, [.ref a0, .ref b0])), (a0, .inl (cL, 7, .inr (.inl f))), (b0, .inl (cL, 14, .inr (.inl ((wd_mi dg g i0 j0 p9 i).1)))), (h1, .inr (0, [.ref a1, .ref b1])), (a1, .inl (cL, 7, .inr (.inl g)))] → va_S A s.heap H locs → lv_has ls 11 [(0, .ref h0), (1, .ref h1), (2, .int (nI dr)), (3, .int (nI i0)), (4, .long dg), (6, .long ((wd_mi dg g i0 j0 p9 i).2)), (8, .int (nI (j0 + i)))] → W p l e R s m args below meth c H locs cells slots Q (F0 m 48 ls []) := by
  obtain ⟨hx, hb, hr, hml, hts, hown, hlocks, hnm⟩ := id hF
  have hown : s.vm.findClass R_W = some m.cls := hown
  have ha : ∀ w ∈ al_W, w.before args s = true := fun w h => hts w (List.mem_cons_of_mem _ h)
  intro n9
  induction n9 with
  | zero =>
    intro i hi H locs ls hP hD hS hl
    obtain rfl : (7 - j0) = i := by omega
    refine lv_iload hx hb d_W_multiplyAndDrop_48 (lv_at hl 6 rfl) ?_
    refine lv_bipush (v := 7) hx hb d_W_multiplyAndDrop_50 (by decide) ?_
    refine lv_icmp_ge (tgt := 108) hx hb d_W_multiplyAndDrop_52 (by decide) (fun hc => ?_) (fun hc => ?_)
    · exact K _ _ _ hP hD hS (lv_sub hl [0, 1, 2, 3, 4, 5, 6] rfl)
    · exact absurd (show nI 7 ≤ nI (j0 + (7 - j0)) from nI_le (by omega) (by omega)) hc
  | succ n9 ih =>
    intro i hi H locs ls hP hD hS hl
    have hlt : i < (7 - j0) := by omega
    refine lv_iload hx hb d_W_multiplyAndDrop_48 (lv_at hl 6 rfl) ?_
    refine lv_bipush (v := 7) hx hb d_W_multiplyAndDrop_50 (by decide) ?_
    refine lv_icmp_ge (tgt := 108) hx hb d_W_multiplyAndDrop_52 (by decide) (fun hc => ?_) (fun hc => ?_)
    · exact absurd (show nI 7 ≤ nI (j0 + i) from hc) (nI_ge (by omega) (by omega))
    · refine lv_lload hx hb d_W_multiplyAndDrop_55 (lv_at hl 4 rfl) ?_
      refine lv_aload_n hx hb d_W_multiplyAndDrop_57 rfl (lv_at hl 1 rfl) ?_
      refine va_get (D := (dC, dI)) (ci := 0) (v := .ref a1) (C := R_W) (T := F_W) (N := 2) hx hb ha ui_W hown hK hP 3 rfl rfl 0 (by decide) (ha _ wm_W_5) (fun _ h9 => h9) rfl d_W_multiplyAndDrop_58 ?_
      refine lv_iload hx hb d_W_multiplyAndDrop_61 (lv_at hl 6 rfl) ?_
      refine ct_lald hx hb hK hP 4 0 rfl rfl (j0 + i) rfl (by omega) (by omega) d_W_multiplyAndDrop_63 ?_
      refine lv_lmul hx hb d_W_multiplyAndDrop_64 ?_
      refine lv_aload_n hx hb d_W_multiplyAndDrop_65 rfl (lv_at hl 0 rfl) ?_
      refine va_get (D := (dC, dI)) (ci := 0) (v := .ref b0) (C := R_W) (T := F_W) (N := 2) hx hb ha ui_W hown hK hP 0 rfl rfl 1 (by decide) (ha _ wm_W_6) (fun _ h9 => h9) rfl d_W_multiplyAndDrop_66 ?_
      refine lv_iload_n hx hb d_W_multiplyAndDrop_69 rfl (lv_at hl 3 rfl) ?_
      refine lv_iload hx hb d_W_multiplyAndDrop_70 (lv_at hl 6 rfl) ?_
      refine lv_iadd hx hb d_W_multiplyAndDrop_72 ?_
      refine ct_lald hx hb hK hP 2 0 rfl rfl (i0 + (j0 + i)) (nI_add _ _) (by omega) (by omega) d_W_multiplyAndDrop_73 ?_
      refine lv_ladd hx hb d_W_multiplyAndDrop_74 ?_
      refine lv_lload hx hb d_W_multiplyAndDrop_75 (lv_at hl 5 rfl) ?_
      refine lv_ladd hx hb d_W_multiplyAndDrop_77 ?_
      refine lv_lstore (lv' := [(9, .long (((dg * (g (j0 + i))) + (((wd_mi dg g i0 j0 p9 i).1) (i0 + (j0 + i)))) + ((wd_mi dg g i0 j0 p9 i).2))), (0, .ref h0), (1, .ref h1), (2, .int (nI dr)), (3, .int (nI i0)), (4, .long dg), (6, .long ((wd_mi dg g i0 j0 p9 i).2)), (8, .int (nI (j0 + i)))]) hx hb d_W_multiplyAndDrop_78 hl (by decide) rfl (fun ls hl => ?_)
      refine lv_aload_n hx hb d_W_multiplyAndDrop_80 rfl (lv_at hl 1 rfl) ?_
      refine va_get (D := (dC, dI)) (ci := 0) (v := .ref b0) (C := R_W) (T := F_W) (N := 2) hx hb ha ui_W hown hK hP 0 rfl rfl 1 (by decide) (ha _ wm_W_6) (fun _ h9 => h9) rfl d_W_multiplyAndDrop_81 ?_
      refine lv_iload_n hx hb d_W_multiplyAndDrop_84 rfl (lv_at hl 4 rfl) ?_
      refine lv_iload hx hb d_W_multiplyAndDrop_85 (lv_at hl 7 rfl) ?_
      refine lv_iadd hx hb d_W_multiplyAndDrop_87 ?_
      refine lv_lload hx hb d_W_multiplyAndDrop_88 (lv_at hl 0 rfl) ?_
      refine lv_ldc2 (v := 4294967295) hx hb hown (ha _ wm_W_13) d_W_multiplyAndDrop_90 ?_
      refine lv_land hx hb d_W_multiplyAndDrop_93 ?_
      refine ct_last hx hb hK hP hD hS 2 0 rfl rfl (i0 + (j0 + i)) (nI_add _ _) (by omega) (by omega) d_W_multiplyAndDrop_94 (fun H locs hP hD hS => ?_)
      have hP : va_P (dC, dI) cl9 [(h0, .inr (0, [.ref a0, .ref b0])), (a0, .inl (cL, 7, .inr (.inl f))), (b0, .inl (cL, 14, .inr (.inl (vp_updL ((wd_mi dg g i0 j0 p9 i).1) (i0 + (j0 + i)) ((((dg * (g (j0 + i))) + (((wd_mi dg g i0 j0 p9 i).1) (i0 + (j0 + i)))) + ((wd_mi dg g i0 j0 p9 i).2)) &&& 4294967295))))), (h1, .inr (0, [.ref a1, .ref b1])), (a1, .inl (cL, 7, .inr (.inl g)))] H := hP
      have hD : va_D A [(h0, .inr (0, [.ref a0, .ref b0])), (a0, .inl (cL, 7, .inr (.inl f))), (b0, .inl (cL, 14, .inr (.inl (vp_updL ((wd_mi dg g i0 j0 p9 i).1) (i0 + (j0 + i)) ((((dg * (g (j0 + i))) + (((wd_mi dg g i0 j0 p9 i).1) (i0 + (j0 + i)))) + ((wd_mi dg g i0 j0 p9 i).2)) &&& 4294967295))))), (h1, .inr (0, [.ref a1, .ref b1])), (a1, .inl (cL, 7, .inr (.inl g)))] := hD
      refine lv_lload hx hb d_W_multiplyAndDrop_95 (lv_at hl 0 rfl) ?_
      refine lv_bipush (v := 32) hx hb d_W_multiplyAndDrop_97 (by decide) ?_
      refine lv_lushr (v := (pu_us (((dg * (g (j0 + i))) + (((wd_mi dg g i0 j0 p9 i).1) (i0 + (j0 + i)))) + ((wd_mi dg g i0 j0 p9 i).2)) 32)) hx hb d_W_multiplyAndDrop_99 rfl ?_
      refine lv_lstore (lv' := [(6, .long (pu_us (((dg * (g (j0 + i))) + (((wd_mi dg g i0 j0 p9 i).1) (i0 + (j0 + i)))) + ((wd_mi dg g i0 j0 p9 i).2)) 32)), (9, .long (((dg * (g (j0 + i))) + (((wd_mi dg g i0 j0 p9 i).1) (i0 + (j0 + i)))) + ((wd_mi dg g i0 j0 p9 i).2))), (0, .ref h0), (1, .ref h1), (2, .int (nI dr)), (3, .int (nI i0)), (4, .long dg), (8, .int (nI (j0 + i)))]) hx hb d_W_multiplyAndDrop_100 hl (by decide) rfl (fun ls hl => ?_)
      refine lv_iinc (v := (nI (j0 + i + 1))) (lv' := [(8, .int (nI (j0 + i + 1))), (6, .long (pu_us (((dg * (g (j0 + i))) + (((wd_mi dg g i0 j0 p9 i).1) (i0 + (j0 + i)))) + ((wd_mi dg g i0 j0 p9 i).2)) 32)), (9, .long (((dg * (g (j0 + i))) + (((wd_mi dg g i0 j0 p9 i).1) (i0 + (j0 + i)))) + ((wd_mi dg g i0 j0 p9 i).2))), (0, .ref h0), (1, .ref h1), (2, .int (nI dr)), (3, .int (nI i0)), (4, .long dg)]) hx hb d_W_multiplyAndDrop_102 hl (k := 7) rfl (by exact nI_1 (j0 + i)) (by decide) rfl (fun ls hl => ?_)
      refine lv_goto (tgt := 48) hx hb d_W_multiplyAndDrop_105 (by decide) ?_
      exact ih (i + 1) (by omega) _ _ _ hP hD hS (lv_sub hl [3, 4, 5, 6, 7, 1, 0] rfl)
set_option maxHeartbeats 4000000 in
set_option maxRecDepth 100000 in
/-- the rows of the product -/
theorem lp_W_mulOut {p : Program} {l : Launch} {e : Env} {R : Room} {s : State} {m : MethodId} {args : Array Value} {below : List Frame} {meth : Method} {c : Code} {Q : State → Prop} {A : Nat → Prop} {cells slots : Nat} {dC : Nat → ClassId} {dI : Nat → Nat → Nat} {h0 : Nat} {a0 : Nat} {b0 : Nat} {h1 : Nat} {a1 : Nat} {b1 : Nat} {cL : ClassId} {f : Nat → Int64} {g : Nat → Int64} {p9 : Nat → Int64} {dr : Nat} (hF : ct_F p s m meth c b_W_multiplyAndDrop none 11 w_W_multiplyAndDrop y_W_multiplyAndDrop args) (hA : ∀ q, s.heap.size ≤ q → A q) (hK : va_K (dC, dI) cl9 [(cL, .long)] s) (hdr : dr ≤ 7) (hRf : 1 ≤ R.frames) (hRl : 21 ≤ R.locals) (hRc : cells ≤ R.cells) (hRs : slots ≤ R.slots)
    (K : ∀ (H : Heap) (locs : List Loc) (ls : Array Slot), va_P (dC, dI) cl9 [(h0, .inr (0, [.ref a0, .ref b0])), (a0, .inl (cL, 7, .inr (.inl f))), (b0, .inl (cL, 14, .inr (.inl (wd_mo f g dr p9 7)))), (h1, .inr (0, [.ref a1, .ref b1])), (a1, .inl (cL, 7, .inr (.inl g)))] H → va_D A [(h0, .inr (0, [.ref a0, .ref b0])), (a0, .inl (cL, 7, .inr (.inl f))), (b0, .inl (cL, 14, .inr (.inl (wd_mo f g dr p9 7)))), (h1, .inr (0, [.ref a1, .ref b1])), (a1, .inl (cL, 7, .inr (.inl g)))] → va_S A s.heap H locs → lv_has ls 11 [(0, .ref h0), (1, .ref h1), (2, .int (nI dr)), (3, .int (nI 7))] → W p l e R s m args below meth c H locs cells slots Q (F0 m 125 ls [])) :
    ∀ (n9 i : Nat), i + n9 = 7 → ∀ (H : Heap) (locs : List Loc) (ls : Array Slot), va_P (dC, dI) cl9 [(h0, .inr (0, [.ref a0, .ref b0])), (a0, .inl (cL, 7, .inr (.inl f))), (b0, .inl (cL, 14, .inr (.inl (wd_mo f g dr p9 i)))), (h1, .inr (0, [.ref a1, .ref b1])), (a1, .inl (cL, 7, .inr (.inl g)))] H → va_D A [(h0, .inr (0, [.ref a0, .ref b0])), (a0, .inl (cL, 7, .inr (.inl f))), (b0, .inl (cL, 14, .inr (.inl (wd_mo f g dr p9 i)))), (h1, .inr (0, [.ref a1, .ref b1])), (a1, .inl (cL, 7, .inr (.inl g)))] → va_S A s.heap H locs → lv_has ls 11 [(0, .ref h0), (1, .ref h1), (2, .int (nI dr)), (3, .int (nI i))] → W p l e R s m args below meth c H locs cells slots Q (F0 m 10 ls []) := by
  obtain ⟨hx, hb, hr, hml, hts, hown, hlocks, hnm⟩ := id hF
  have hown : s.vm.findClass R_W = some m.cls := hown
  have ha : ∀ w ∈ al_W, w.before args s = true := fun w h => hts w (List.mem_cons_of_mem _ h)
  intro n9
  induction n9 with
  | zero =>
    intro i hi H locs ls hP hD hS hl
    obtain rfl : 7 = i := by omega
    refine lv_iload_n hx hb d_W_multiplyAndDrop_10 rfl (lv_at hl 3 rfl) ?_
    refine lv_bipush (v := 7) hx hb d_W_multiplyAndDrop_11 (by decide) ?_
    refine lv_icmp_ge (tgt := 125) hx hb d_W_multiplyAndDrop_13 (by decide) (fun hc => ?_) (fun hc => ?_)
    · exact K _ _ _ hP hD hS (lv_sub hl [0, 1, 2, 3] rfl)
    · exact absurd (show nI 7 ≤ nI 7 from nI_le (by omega) (by omega)) hc
  | succ n9 ih =>
    intro i hi H locs ls hP hD hS hl
    have hlt : i < 7 := by omega
    refine lv_iload_n hx hb d_W_multiplyAndDrop_10 rfl (lv_at hl 3 rfl) ?_
    refine lv_bipush (v := 7) hx hb d_W_multiplyAndDrop_11 (by decide) ?_
    refine lv_icmp_ge (tgt := 125) hx hb d_W_multiplyAndDrop_13 (by decide) (fun hc => ?_) (fun hc => ?_)
    · exact absurd (show nI 7 ≤ nI i from hc) (nI_ge (by omega) (by omega))
    · refine lv_aload_n hx hb d_W_multiplyAndDrop_16 rfl (lv_at hl 0 rfl) ?_
      refine va_get (D := (dC, dI)) (ci := 0) (v := .ref a0) (C := R_W) (T := F_W) (N := 2) hx hb ha ui_W hown hK hP 0 rfl rfl 0 (by decide) (ha _ wm_W_5) (fun _ h9 => h9) rfl d_W_multiplyAndDrop_17 ?_
      refine lv_iload_n hx hb d_W_multiplyAndDrop_20 rfl (lv_at hl 3 rfl) ?_
      refine ct_lald hx hb hK hP 1 0 rfl rfl i rfl (by omega) (by omega) d_W_multiplyAndDrop_21 ?_
      refine lv_lstore (lv' := [(4, .long (f i)), (0, .ref h0), (1, .ref h1), (2, .int (nI dr)), (3, .int (nI i))]) hx hb d_W_multiplyAndDrop_22 hl (by decide) rfl (fun ls hl => ?_)
      refine lv_lload hx hb d_W_multiplyAndDrop_24 (lv_at hl 0 rfl) ?_
      refine lv_lconst (v := 0) hx hb d_W_multiplyAndDrop_26 (by decide) ?_
      refine ct_jne (tgt := 34) hx hb d_W_multiplyAndDrop_27 d_W_multiplyAndDrop_28 (by decide) (fun hz => ?_) (fun hz => ?_)
      · refine lv_lconst (v := 0) hx hb d_W_multiplyAndDrop_34 (by decide) ?_
        refine lv_lstore (lv' := [(6, .long 0), (4, .long (f i)), (0, .ref h0), (1, .ref h1), (2, .int (nI dr)), (3, .int (nI i))]) hx hb d_W_multiplyAndDrop_35 hl (by decide) rfl (fun ls hl => ?_)
        refine lv_iconst (v := 0) hx hb d_W_multiplyAndDrop_37 (by decide) ?_
        refine lv_iload_n hx hb d_W_multiplyAndDrop_38 rfl (lv_at hl 4 rfl) ?_
        refine lv_iconst (v := 1) hx hb d_W_multiplyAndDrop_39 (by decide) ?_
        refine lv_isub hx hb d_W_multiplyAndDrop_40 ?_
        refine lv_iload_n hx hb d_W_multiplyAndDrop_41 rfl (lv_at hl 5 rfl) ?_
        refine lv_isub hx hb d_W_multiplyAndDrop_42 ?_
        refine cs_calli (va_runS (As := [.int 0, .int (((nI dr) - 1) - (nI i))]) (rest := []) ⟨hx, hb, hml, hown, ha⟩ (c_max l dC dI 0 (nI dr - 1 - nI i) _) (va_cwS 2 ha g_W_Math_max_III rfl rfl rfl (by decide +kernel) ⟨hRf, hRl⟩) (ct_pre ct_G0ok trivial hK hP hD hS hA [] rfl (by decide) [] rfl) rfl rfl hl.1 rfl (lv_room (Nat.le_of_ble_eq_true rfl)) d_W_multiplyAndDrop_43 ⟨hRc, hRs⟩) hP hD hS hA [] rfl (by decide) (fun _ => rfl) (fun r u H locs hw hP hD hS => ?_)
        have hP : va_P (dC, dI) cl9 [(h0, .inr (0, [.ref a0, .ref b0])), (a0, .inl (cL, 7, .inr (.inl f))), (b0, .inl (cL, 14, .inr (.inl (wd_mo f g dr p9 i)))), (h1, .inr (0, [.ref a1, .ref b1])), (a1, .inl (cL, 7, .inr (.inl g)))] H := hP
        have hD : va_D A [(h0, .inr (0, [.ref a0, .ref b0])), (a0, .inl (cL, 7, .inr (.inl f))), (b0, .inl (cL, 14, .inr (.inl (wd_mo f g dr p9 i)))), (h1, .inr (0, [.ref a1, .ref b1])), (a1, .inl (cL, 7, .inr (.inl g)))] := hD
        have hr9 : r = nI (dr - 1 - i) := hw.trans (wd_j0 dr (by omega) i (by omega))
        subst hr9
        refine lv_istore (lv' := [(8, .int (nI (dr - 1 - i))), (6, .long 0), (4, .long (f i)), (0, .ref h0), (1, .ref h1), (2, .int (nI dr)), (3, .int (nI i))]) hx hb d_W_multiplyAndDrop_46 hl (by decide) rfl (fun ls hl => ?_)
        refine lp_W_mulIn (h0 := h0) (a0 := a0) (b0 := b0) (h1 := h1) (a1 := a1) (b1 := b1) (cL := cL) (f := f) (g := g) (p9 := (wd_mo f g dr p9 i)) (dr := dr) (dg := (f i)) (i0 := i) (j0 := (dr - 1 - i)) hF hA hK hlt (by omega) (fun H locs ls hP hD hS hl => ?_) (7 - (dr - 1 - i)) 0 (by omega) _ _ _ hP hD hS (lv_sub hl [3, 4, 5, 6, 2, 1, 0] rfl)
        refine lv_aload_n hx hb d_W_multiplyAndDrop_108 rfl (lv_at hl 0 rfl) ?_
        refine va_get (D := (dC, dI)) (ci := 0) (v := .ref b0) (C := R_W) (T := F_W) (N := 2) hx hb ha ui_W hown hK hP 0 rfl rfl 1 (by decide) (ha _ wm_W_6) (fun _ h9 => h9) rfl d_W_multiplyAndDrop_109 ?_
        refine lv_iload_n hx hb d_W_multiplyAndDrop_112 rfl (lv_at hl 3 rfl) ?_
        refine lv_bipush (v := 7) hx hb d_W_multiplyAndDrop_113 (by decide) ?_
        refine lv_iadd hx hb d_W_multiplyAndDrop_115 ?_
        refine lv_lload hx hb d_W_multiplyAndDrop_116 (lv_at hl 5 rfl) ?_
        refine ct_last hx hb hK hP hD hS 2 0 rfl rfl (i + 7) (nI_add _ _) (by omega) (by omega) d_W_multiplyAndDrop_118 (fun H locs hP hD hS => ?_)
        have hP : va_P (dC, dI) cl9 [(h0, .inr (0, [.ref a0, .ref b0])), (a0, .inl (cL, 7, .inr (.inl f))), (b0, .inl (cL, 14, .inr (.inl (vp_updL ((wd_mi (f i) g i (dr - 1 - i) (wd_mo f g dr p9 i) (7 - (dr - 1 - i))).1) (i + 7) ((wd_mi (f i) g i (dr - 1 - i) (wd_mo f g dr p9 i) (7 - (dr - 1 - i))).2))))), (h1, .inr (0, [.ref a1, .ref b1])), (a1, .inl (cL, 7, .inr (.inl g)))] H := hP
        have hD : va_D A [(h0, .inr (0, [.ref a0, .ref b0])), (a0, .inl (cL, 7, .inr (.inl f))), (b0, .inl (cL, 14, .inr (.inl (vp_updL ((wd_mi (f i) g i (dr - 1 - i) (wd_mo f g dr p9 i) (7 - (dr - 1 - i))).1) (i + 7) ((wd_mi (f i) g i (dr - 1 - i) (wd_mo f g dr p9 i) (7 - (dr - 1 - i))).2))))), (h1, .inr (0, [.ref a1, .ref b1])), (a1, .inl (cL, 7, .inr (.inl g)))] := hD
        refine lv_iinc (v := (nI (i + 1))) (lv' := [(3, .int (nI (i + 1))), (0, .ref h0), (1, .ref h1), (2, .int (nI dr)), (4, .long (f i)), (6, .long ((wd_mi (f i) g i (dr - 1 - i) (wd_mo f g dr p9 i) (7 - (dr - 1 - i))).2)), (8, .int (nI (dr - 1 - i + (7 - (dr - 1 - i)))))]) hx hb d_W_multiplyAndDrop_119 hl (k := 3) rfl (by exact nI_1 i) (by decide) rfl (fun ls hl => ?_)
        refine lv_goto (tgt := 10) hx hb d_W_multiplyAndDrop_122 (by decide) ?_
        have e9 : wd_mo f g dr p9 (i + 1) = vp_updL (wd_mi (f i) g i (dr - 1 - i) (wd_mo f g dr p9 i) (7 - (dr - 1 - i))).1 (i + 7) (wd_mi (f i) g i (dr - 1 - i) (wd_mo f g dr p9 i) (7 - (dr - 1 - i))).2 := if_neg hz
        exact ih (i + 1) (by omega) _ _ _ (by rw [e9]; exact hP) (by rw [e9]; exact hD) hS (lv_sub hl [1, 2, 3, 0] rfl)
      · refine lv_goto (tgt := 119) hx hb d_W_multiplyAndDrop_31 (by decide) ?_
        refine lv_iinc (v := (nI (i + 1))) (lv' := [(3, .int (nI (i + 1))), (4, .long (f i)), (0, .ref h0), (1, .ref h1), (2, .int (nI dr))]) hx hb d_W_multiplyAndDrop_119 hl (k := 4) rfl (by exact nI_1 i) (by decide) rfl (fun ls hl => ?_)
        refine lv_goto (tgt := 10) hx hb d_W_multiplyAndDrop_122 (by decide) ?_
        have e9 : wd_mo f g dr p9 (i + 1) = wd_mo f g dr p9 i := if_pos hz
        exact ih (i + 1) (by omega) _ _ _ (by rw [e9]; exact hP) (by rw [e9]; exact hD) hS (lv_sub hl [2, 3, 4, 0] rfl)
set_option maxHeartbeats 4000000 in
set_option maxRecDepth 100000 in
/-- what is kept of the product -/
theorem lp_W_mulCp {p : Program} {l : Launch} {e : Env} {R : Room} {s : State} {m : MethodId} {args : Array Value} {below : List Frame} {meth : Method} {c : Code} {Q : State → Prop} {A : Nat → Prop} {cells slots : Nat} {dC : Nat → ClassId} {dI : Nat → Nat → Nat} {h0 : Nat} {a0 : Nat} {b0 : Nat} {h1 : Nat} {a1 : Nat} {b1 : Nat} {cL : ClassId} {f : Nat → Int64} {g : Nat → Int64} {p9 : Nat → Int64} {dr : Nat} (hF : ct_F p s m meth c b_W_multiplyAndDrop none 11 w_W_multiplyAndDrop y_W_multiplyAndDrop args) (hA : ∀ q, s.heap.size ≤ q → A q) (hK : va_K (dC, dI) cl9 [(cL, .long)] s) (hdr : dr ≤ 7)
    (K : ∀ (H : Heap) (locs : List Loc) (ls : Array Slot), va_P (dC, dI) cl9 [(h0, .inr (0, [.ref a0, .ref b0])), (a0, .inl (cL, 7, .inr (.inl (wd_cp f (fun j => p9 (j + dr)) 7)))), (b0, .inl (cL, 14, .inr (.inl p9))), (h1, .inr (0, [.ref a1, .ref b1])), (a1, .inl (cL, 7, .inr (.inl g)))] H → va_D A [(h0, .inr (0, [.ref a0, .ref b0])), (a0, .inl (cL, 7, .inr (.inl (wd_cp f (fun j => p9 (j + dr)) 7)))), (b0, .inl (cL, 14, .inr (.inl p9))), (h1, .inr (0, [.ref a1, .ref b1])), (a1, .inl (cL, 7, .inr (.inl g)))] → va_S A s.heap H locs → lv_has ls 11 [(0, .ref h0), (2, .int (nI dr)), (3, .int (nI 7))] → W p l e R s m args below meth c H locs cells slots Q (F0 m 153 ls [])) :
    ∀ (n9 i : Nat), i + n9 = 7 → ∀ (H : Heap) (locs : List Loc) (ls : Array Slot), va_P (dC, dI) cl9 [(h0, .inr (0, [.ref a0, .ref b0])), (a0, .inl (cL, 7, .inr (.inl (wd_cp f (fun j => p9 (j + dr)) i)))), (b0, .inl (cL, 14, .inr (.inl p9))), (h1, .inr (0, [.ref a1, .ref b1])), (a1, .inl (cL, 7, .inr (.inl g)))] H → va_D A [(h0, .inr (0, [.ref a0, .ref b0])), (a0, .inl (cL, 7, .inr (.inl (wd_cp f (fun j => p9 (j + dr)) i)))), (b0, .inl (cL, 14, .inr (.inl p9))), (h1, .inr (0, [.ref a1, .ref b1])), (a1, .inl (cL, 7, .inr (.inl g)))] → va_S A s.heap H locs → lv_has ls 11 [(0, .ref h0), (2, .int (nI dr)), (3, .int (nI i))] → W p l e R s m args below meth c H locs cells slots Q (F0 m 127 ls []) := by
  obtain ⟨hx, hb, hr, hml, hts, hown, hlocks, hnm⟩ := id hF
  have hown : s.vm.findClass R_W = some m.cls := hown
  have ha : ∀ w ∈ al_W, w.before args s = true := fun w h => hts w (List.mem_cons_of_mem _ h)
  intro n9
  induction n9 with
  | zero =>
    intro i hi H locs ls hP hD hS hl
    obtain rfl : 7 = i := by omega
    refine lv_iload_n hx hb d_W_multiplyAndDrop_127 rfl (lv_at hl 2 rfl) ?_
    refine lv_bipush (v := 7) hx hb d_W_multiplyAndDrop_128 (by decide) ?_
    refine lv_icmp_ge (tgt := 153) hx hb d_W_multiplyAndDrop_130 (by decide) (fun hc => ?_) (fun hc => ?_)
    · exact K _ _ _ hP hD hS (lv_sub hl [0, 1, 2] rfl)
    · exact absurd (show nI 7 ≤ nI 7 from nI_le (by omega) (by omega)) hc
  | succ n9 ih =>
    intro i hi H locs ls hP hD hS hl
    have hlt : i < 7 := by omega
    refine lv_iload_n hx hb d_W_multiplyAndDrop_127 rfl (lv_at hl 2 rfl) ?_
    refine lv_bipush (v := 7) hx hb d_W_multiplyAndDrop_128 (by decide) ?_
    refine lv_icmp_ge (tgt := 153) hx hb d_W_multiplyAndDrop_130 (by decide) (fun hc => ?_) (fun hc => ?_)
    · exact absurd (show nI 7 ≤ nI i from hc) (nI_ge (by omega) (by omega))
    · refine lv_aload_n hx hb d_W_multiplyAndDrop_133 rfl (lv_at hl 0 rfl) ?_
      refine va_get (D := (dC, dI)) (ci := 0) (v := .ref a0) (C := R_W) (T := F_W) (N := 2) hx hb ha ui_W hown hK hP 0 rfl rfl 0 (by decide) (ha _ wm_W_5) (fun _ h9 => h9) rfl d_W_multiplyAndDrop_134 ?_
      refine lv_iload_n hx hb d_W_multiplyAndDrop_137 rfl (lv_at hl 2 rfl) ?_
      refine lv_aload_n hx hb d_W_multiplyAndDrop_138 rfl (lv_at hl 0 rfl) ?_
      refine va_get (D := (dC, dI)) (ci := 0) (v := .ref b0) (C := R_W) (T := F_W) (N := 2) hx hb ha ui_W hown hK hP 0 rfl rfl 1 (by decide) (ha _ wm_W_6) (fun _ h9 => h9) rfl d_W_multiplyAndDrop_139 ?_
      refine lv_iload_n hx hb d_W_multiplyAndDrop_142 rfl (lv_at hl 2 rfl) ?_
      refine lv_iload_n hx hb d_W_multiplyAndDrop_143 rfl (lv_at hl 1 rfl) ?_
      refine lv_iadd hx hb d_W_multiplyAndDrop_144 ?_
      refine ct_lald hx hb hK hP 2 0 rfl rfl (i + dr) (nI_add _ _) (by omega) (by omega) d_W_multiplyAndDrop_145 ?_
      refine ct_last hx hb hK hP hD hS 1 0 rfl rfl i rfl (by omega) (by omega) d_W_multiplyAndDrop_146 (fun H locs hP hD hS => ?_)
      have hP : va_P (dC, dI) cl9 [(h0, .inr (0, [.ref a0, .ref b0])), (a0, .inl (cL, 7, .inr (.inl (vp_updL (wd_cp f (fun j => p9 (j + dr)) i) i (p9 (i + dr)))))), (b0, .inl (cL, 14, .inr (.inl p9))), (h1, .inr (0, [.ref a1, .ref b1])), (a1, .inl (cL, 7, .inr (.inl g)))] H := hP
      have hD : va_D A [(h0, .inr (0, [.ref a0, .ref b0])), (a0, .inl (cL, 7, .inr (.inl (vp_updL (wd_cp f (fun j => p9 (j + dr)) i) i (p9 (i + dr)))))), (b0, .inl (cL, 14, .inr (.inl p9))), (h1, .inr (0, [.ref a1, .ref b1])), (a1, .inl (cL, 7, .inr (.inl g)))] := hD
      refine lv_iinc (v := (nI (i + 1))) (lv' := [(3, .int (nI (i + 1))), (0, .ref h0), (2, .int (nI dr))]) hx hb d_W_multiplyAndDrop_147 hl (k := 2) rfl (by exact nI_1 i) (by decide) rfl (fun ls hl => ?_)
      refine lv_goto (tgt := 127) hx hb d_W_multiplyAndDrop_150 (by decide) ?_
      rw [wd_cp_s] at hP hD
      exact ih (i + 1) (by omega) _ _ _ hP hD hS (lv_sub hl [1, 2, 0] rfl)
set_option maxHeartbeats 4000000 in
set_option maxRecDepth 100000 in
/-- this times other, dr limbs dropped -/
theorem c_W_mulDrop (l : Launch) (dC : Nat → ClassId) (dI : Nat → Nat → Nat) (h0 a0 b0 h1 a1 b1 : Nat) (cL : ClassId) (f g p9 : Nat → Int64) (dr : Nat) (hdr : dr ≤ 7) (sz : Nat) : ct_V l y_W_multiplyAndDrop w_W_multiplyAndDrop { frames := 1, cells := 0, slots := 0, locals := 26 } (dC, dI) cl9 [(cL, .long)] ct_G0 [.ref h0, .ref h1, .int (nI dr)] [(h0, .inr (0, [.ref a0, .ref b0])), (a0, .inl (cL, 7, .inr (.inl f))), (b0, .inl (cL, 14, .inr (.inl p9))), (h1, .inr (0, [.ref a1, .ref b1])), (a1, .inl (cL, 7, .inr (.inl g)))] sz (S := (Nat → Int64) × (Nat → Int64)) (fun u : (Nat → Int64) × (Nat → Int64) => u.1 = wd_mul f g dr p9 ∧ u.2 = wd_mo f g dr p9 7) (fun _ : (Nat → Int64) × (Nat → Int64) => [(cL, .long)]) (fun u : (Nat → Int64) × (Nat → Int64) => [(h0, .inr (0, [.ref a0, .ref b0])), (a0, .inl (cL, 7, .inr (.inl u.1))), (b0, .inl (cL, 14, .inr (.inl u.2))), (h1, .inr (0, [.ref a1, .ref b1])), (a1, .inl (cL, 7, .inr (.inl g)))]) 0 0 := by
  refine ct_of (Qf := fun A => va_Qv (fun u : (Nat → Int64) × (Nat → Int64) => u.1 = wd_mul f g dr p9 ∧ u.2 = wd_mo f g dr p9 7) (ct_B (S := (Nat → Int64) × (Nat → Int64)) (dC, dI) cl9 (fun _ : (Nat → Int64) × (Nat → Int64) => [(cL, .long)]) A (fun u : (Nat → Int64) × (Nat → Int64) => [(h0, .inr (0, [.ref a0, .ref b0])), (a0, .inl (cL, 7, .inr (.inl u.1))), (b0, .inl (cL, 14, .inr (.inl u.2))), (h1, .inr (0, [.ref a1, .ref b1])), (a1, .inl (cL, 7, .inr (.inl g)))])) A) (cc := b_W_multiplyAndDrop) (maxL := 11) (ret := none) (by decide) rfl (Nat.le_of_ble_eq_true rfl) ?_
  intro p e s m below meth c A ls hF hA hP hK hD hG hS hl
  obtain ⟨hx, hb, hr, hml, hts, hown, hlocks, hnm⟩ := id hF
  have hown : s.vm.findClass R_W = some m.cls := hown
  have ha : ∀ w ∈ al_W, w.before [.ref h0, .ref h1, .int (nI dr)].toArray s = true := fun w h => hts w (List.mem_cons_of_mem _ h)
  have hl : lv_has ls 11 [(0, .ref h0), (1, .ref h1), (2, .int (nI dr))] := hl
  refine lv_aload_n hx hb d_W_multiplyAndDrop_0 rfl (lv_at hl 0 rfl) ?_
  refine va_get (D := (dC, dI)) (ci := 0) (v := .ref b0) (C := R_W) (T := F_W) (N := 2) hx hb ha ui_W hown hK hP 0 rfl rfl 1 (by decide) (ha _ wm_W_6) (fun _ h9 => h9) rfl d_W_multiplyAndDrop_1 ?_
  refine lv_lconst (v := 0) hx hb d_W_multiplyAndDrop_4 (by decide) ?_
  refine cs_callv (va_runS (As := [.ref b0, .long 0]) (rest := []) ⟨hx, hb, hml, hown, ha⟩ (c_fill l dC dI b0 cL 14 (by omega) p9 0 _) (va_cwS 2 ha g_W_fill rfl rfl rfl (by decide +kernel) ⟨Nat.le_of_ble_eq_true rfl, Nat.le_of_ble_eq_true rfl⟩) (ct_pre ct_G0ok trivial hK hP hD hS hA [2] rfl (by decide) [0] rfl) rfl rfl hl.1 rfl (lv_room (Nat.le_of_ble_eq_true rfl)) d_W_multiplyAndDrop_5 ⟨Nat.le_of_ble_eq_true rfl, Nat.le_of_ble_eq_true rfl⟩) hP hD hS hA [2] rfl (by decide) (fun _ => rfl) (fun u H locs hw hP hD hS => ?_)
  have hP : va_P (dC, dI) cl9 [(h0, .inr (0, [.ref a0, .ref b0])), (a0, .inl (cL, 7, .inr (.inl f))), (b0, .inl (cL, 14, .inr (.inl u))), (h1, .inr (0, [.ref a1, .ref b1])), (a1, .inl (cL, 7, .inr (.inl g)))] H := hP
  have hD : va_D A [(h0, .inr (0, [.ref a0, .ref b0])), (a0, .inl (cL, 7, .inr (.inl f))), (b0, .inl (cL, 14, .inr (.inl u))), (h1, .inr (0, [.ref a1, .ref b1])), (a1, .inl (cL, 7, .inr (.inl g)))] := hD
  subst hw
  have hP : va_P (dC, dI) cl9 [(h0, .inr (0, [.ref a0, .ref b0])), (a0, .inl (cL, 7, .inr (.inl f))), (b0, .inl (cL, 14, .inr (.inl (wd_fl p9 0 14)))), (h1, .inr (0, [.ref a1, .ref b1])), (a1, .inl (cL, 7, .inr (.inl g)))] H := hP
  have hD : va_D A [(h0, .inr (0, [.ref a0, .ref b0])), (a0, .inl (cL, 7, .inr (.inl f))), (b0, .inl (cL, 14, .inr (.inl (wd_fl p9 0 14)))), (h1, .inr (0, [.ref a1, .ref b1])), (a1, .inl (cL, 7, .inr (.inl g)))] := hD
  refine lv_iconst (v := 0) hx hb d_W_multiplyAndDrop_8 (by decide) ?_
  refine lv_istore_n (lv' := [(3, .int 0), (0, .ref h0), (1, .ref h1), (2, .int (nI dr))]) hx hb d_W_multiplyAndDrop_9 rfl hl (by decide) rfl (fun ls hl => ?_)
  refine lp_W_mulOut (h0 := h0) (a0 := a0) (b0 := b0) (h1 := h1) (a1 := a1) (b1 := b1) (cL := cL) (f := f) (g := g) (p9 := p9) (dr := dr) hF hA hK hdr (Nat.le_of_ble_eq_true rfl) (Nat.le_of_ble_eq_true rfl) (Nat.le_of_ble_eq_true rfl) (Nat.le_of_ble_eq_true rfl) (fun H locs ls hP hD hS hl => ?_) 7 0 (by omega) _ _ _ hP hD hS (lv_sub hl [1, 2, 3, 0] rfl)
  refine lv_iconst (v := 0) hx hb d_W_multiplyAndDrop_125 (by decide) ?_
  refine lv_istore_n (lv' := [(3, .int 0), (0, .ref h0), (1, .ref h1), (2, .int (nI dr))]) hx hb d_W_multiplyAndDrop_126 rfl hl (by decide) rfl (fun ls hl => ?_)
  rw [← wd_cp_0 f (fun j => (wd_mo f g dr p9 7) (j + dr))] at hP hD
  refine lp_W_mulCp (h0 := h0) (a0 := a0) (b0 := b0) (h1 := h1) (a1 := a1) (b1 := b1) (cL := cL) (f := f) (g := g) (p9 := (wd_mo f g dr p9 7)) (dr := dr) hF hA hK hdr (fun H locs ls hP hD hS hl => ?_) 7 0 (by omega) _ _ _ hP hD hS (lv_sub hl [1, 3, 0] rfl)
  exact ct_vret hF d_W_multiplyAndDrop_153 (wd_mul f g dr p9, (wd_mo f g dr p9 7)) ⟨rfl, rfl⟩ (hP.sub [0, 1, 2, 3, 4] rfl) (hD.sub [0, 1, 2, 3, 4] (by decide) rfl) hK hS
set_option maxHeartbeats 4000000 in
set_option maxRecDepth 100000 in
/-- a row of the product -/
theorem lp_W_mulInS {p : Program} {l : Launch} {e : Env} {R : Room} {s : State} {m : MethodId} {args : Array Value} {below : List Frame} {meth : Method} {c : Code} {Q : State → Prop} {A : Nat → Prop} {cells slots : Nat} {dC : Nat → ClassId} {dI : Nat → Nat → Nat} {h0 : Nat} {a0 : Nat} {b0 : Nat} {cL : ClassId} {f : Nat → Int64} {p9 : Nat → Int64} {dr : Nat} {dg : Int64} {i0 : Nat} {j0 : Nat} (hF : ct_F p s m meth c b_W_multiplyAndDrop none 11 w_W_multiplyAndDrop y_W_multiplyAndDrop args) (hA : ∀ q, s.heap.size ≤ q → A q) (hK : va_K (dC, dI) cl9 [(cL, .long)] s) (hi0 : i0 < 7) (hj0 : j0 ≤ 7)
    (K : ∀ (H : Heap) (locs : List Loc) (ls : Array Slot), va_P (dC, dI) cl9 [(h0, .inr (0, [.ref a0, .ref b0])), (a0, .inl (cL, 7, .inr (.inl f))), (b0, .inl (cL, 14, .inr (.inl ((wd_mi dg f i0 j0 p9 (7 - j0)).1))))] H → va_D A [(h0, .inr (0, [.ref a0, .ref b0])), (a0, .inl (cL, 7, .inr (.inl f))), (b0, .inl (cL, 14, .inr (.inl ((wd_mi dg f i0 j0 p9 (7 - j0)).1))))] → va_S A s.heap H locs → lv_has ls 11 [(0, .ref h0), (1, .ref h0), (2, .int (nI dr)), (3, .int (nI i0)), (4, .long dg), (6, .long ((wd_mi dg f i0 j0 p9 (7 - j0)).2)), (8, .int (nI (j0 + (7 - j0))))] → W p l e R s m args below meth c H locs cells slots Q (F0 m 108 ls [])) :
    ∀ (n9 i : Nat), i + n9 = (7 - j0) → ∀ (H : Heap) (locs : List Loc) (ls : Array Slot), va_P (dC, dI) cl9 [(h0, .inr (0, [.ref a0, .ref b0])), (a0, .inl (cL, 7, .inr (.inl f))), (b0, .inl (cL, 14, .inr (.inl ((wd_mi dg f i0 j0 p9 i).1))))] H → va_D A [(h0, .inr (0, [.ref a0, .ref b0])), (a0, .inl (cL, 7, .inr (.inl f))), (b0, .inl (cL, 14, .inr (.inl ((wd_mi dg f i0 j0 p9 i).1))))] → va_S A s.heap H locs → lv_has ls 11 [(0, .ref h0), (1, .ref h0), (2, .int (nI dr)), (3, .int (nI i0)), (4, .long dg), (6, .long ((wd_mi dg f i0 j0 p9 i).2)), (8, .int (nI (j0 + i)))] → W p l e R s m args below meth c H locs cells slots Q (F0 m 48 ls []) := by
  obtain ⟨hx, hb, hr, hml, hts, hown, hlocks, hnm⟩ := id hF
  have hown : s.vm.findClass R_W = some m.cls := hown
  have ha : ∀ w ∈ al_W, w.before args s = true := fun w h => hts w (List.mem_cons_of_mem _ h)
  intro n9
  induction n9 with
  | zero =>
    intro i hi H locs ls hP hD hS hl
    obtain rfl : (7 - j0) = i := by omega
    refine lv_iload hx hb d_W_multiplyAndDrop_48 (lv_at hl 6 rfl) ?_
    refine lv_bipush (v := 7) hx hb d_W_multiplyAndDrop_50 (by decide) ?_
    refine lv_icmp_ge (tgt := 108) hx hb d_W_multiplyAndDrop_52 (by decide) (fun hc => ?_) (fun hc => ?_)
    · exact K _ _ _ hP hD hS (lv_sub hl [0, 1, 2, 3, 4, 5, 6] rfl)
    · exact absurd (show nI 7 ≤ nI (j0 + (7 - j0)) from nI_le (by omega) (by omega)) hc
  | succ n9 ih =>
    intro i hi H locs ls hP hD hS hl
    have hlt : i < (7 - j0) := by omega
    refine lv_iload hx hb d_W_multiplyAndDrop_48 (lv_at hl 6 rfl) ?_
    refine lv_bipush (v := 7) hx hb d_W_multiplyAndDrop_50 (by decide) ?_
    refine lv_icmp_ge (tgt := 108) hx hb d_W_multiplyAndDrop_52 (by decide) (fun hc => ?_) (fun hc => ?_)
    · exact absurd (show nI 7 ≤ nI (j0 + i) from hc) (nI_ge (by omega) (by omega))
    · refine lv_lload hx hb d_W_multiplyAndDrop_55 (lv_at hl 4 rfl) ?_
      refine lv_aload_n hx hb d_W_multiplyAndDrop_57 rfl (lv_at hl 1 rfl) ?_
      refine va_get (D := (dC, dI)) (ci := 0) (v := .ref a0) (C := R_W) (T := F_W) (N := 2) hx hb ha ui_W hown hK hP 0 rfl rfl 0 (by decide) (ha _ wm_W_5) (fun _ h9 => h9) rfl d_W_multiplyAndDrop_58 ?_
      refine lv_iload hx hb d_W_multiplyAndDrop_61 (lv_at hl 6 rfl) ?_
      refine ct_lald hx hb hK hP 1 0 rfl rfl (j0 + i) rfl (by omega) (by omega) d_W_multiplyAndDrop_63 ?_
      refine lv_lmul hx hb d_W_multiplyAndDrop_64 ?_
      refine lv_aload_n hx hb d_W_multiplyAndDrop_65 rfl (lv_at hl 0 rfl) ?_
      refine va_get (D := (dC, dI)) (ci := 0) (v := .ref b0) (C := R_W) (T := F_W) (N := 2) hx hb ha ui_W hown hK hP 0 rfl rfl 1 (by decide) (ha _ wm_W_6) (fun _ h9 => h9) rfl d_W_multiplyAndDrop_66 ?_
      refine lv_iload_n hx hb d_W_multiplyAndDrop_69 rfl (lv_at hl 3 rfl) ?_
      refine lv_iload hx hb d_W_multiplyAndDrop_70 (lv_at hl 6 rfl) ?_
      refine lv_iadd hx hb d_W_multiplyAndDrop_72 ?_
      refine ct_lald hx hb hK hP 2 0 rfl rfl (i0 + (j0 + i)) (nI_add _ _) (by omega) (by omega) d_W_multiplyAndDrop_73 ?_
      refine lv_ladd hx hb d_W_multiplyAndDrop_74 ?_
      refine lv_lload hx hb d_W_multiplyAndDrop_75 (lv_at hl 5 rfl) ?_
      refine lv_ladd hx hb d_W_multiplyAndDrop_77 ?_
      refine lv_lstore (lv' := [(9, .long (((dg * (f (j0 + i))) + (((wd_mi dg f i0 j0 p9 i).1) (i0 + (j0 + i)))) + ((wd_mi dg f i0 j0 p9 i).2))), (0, .ref h0), (1, .ref h0), (2, .int (nI dr)), (3, .int (nI i0)), (4, .long dg), (6, .long ((wd_mi dg f i0 j0 p9 i).2)), (8, .int (nI (j0 + i)))]) hx hb d_W_multiplyAndDrop_78 hl (by decide) rfl (fun ls hl => ?_)
      refine lv_aload_n hx hb d_W_multiplyAndDrop_80 rfl (lv_at hl 1 rfl) ?_
      refine va_get (D := (dC, dI)) (ci := 0) (v := .ref b0) (C := R_W) (T := F_W) (N := 2) hx hb ha ui_W hown hK hP 0 rfl rfl 1 (by decide) (ha _ wm_W_6) (fun _ h9 => h9) rfl d_W_multiplyAndDrop_81 ?_
      refine lv_iload_n hx hb d_W_multiplyAndDrop_84 rfl (lv_at hl 4 rfl) ?_
      refine lv_iload hx hb d_W_multiplyAndDrop_85 (lv_at hl 7 rfl) ?_
      refine lv_iadd hx hb d_W_multiplyAndDrop_87 ?_
      refine lv_lload hx hb d_W_multiplyAndDrop_88 (lv_at hl 0 rfl) ?_
      refine lv_ldc2 (v := 4294967295) hx hb hown (ha _ wm_W_13) d_W_multiplyAndDrop_90 ?_
      refine lv_land hx hb d_W_multiplyAndDrop_93 ?_
      refine ct_last hx hb hK hP hD hS 2 0 rfl rfl (i0 + (j0 + i)) (nI_add _ _) (by omega) (by omega) d_W_multiplyAndDrop_94 (fun H locs hP hD hS => ?_)
      have hP : va_P (dC, dI) cl9 [(h0, .inr (0, [.ref a0, .ref b0])), (a0, .inl (cL, 7, .inr (.inl f))), (b0, .inl (cL, 14, .inr (.inl (vp_updL ((wd_mi dg f i0 j0 p9 i).1) (i0 + (j0 + i)) ((((dg * (f (j0 + i))) + (((wd_mi dg f i0 j0 p9 i).1) (i0 + (j0 + i)))) + ((wd_mi dg f i0 j0 p9 i).2)) &&& 4294967295)))))] H := hP
      have hD : va_D A [(h0, .inr (0, [.ref a0, .ref b0])), (a0, .inl (cL, 7, .inr (.inl f))), (b0, .inl (cL, 14, .inr (.inl (vp_updL ((wd_mi dg f i0 j0 p9 i).1) (i0 + (j0 + i)) ((((dg * (f (j0 + i))) + (((wd_mi dg f i0 j0 p9 i).1) (i0 + (j0 + i)))) + ((wd_mi dg f i0 j0 p9 i).2)) &&& 4294967295)))))] := hD
      refine lv_lload hx hb d_W_multiplyAndDrop_95 (lv_at hl 0 rfl) ?_
      refine lv_bipush (v := 32) hx hb d_W_multiplyAndDrop_97 (by decide) ?_
      refine lv_lushr (v := (pu_us (((dg * (f (j0 + i))) + (((wd_mi dg f i0 j0 p9 i).1) (i0 + (j0 + i)))) + ((wd_mi dg f i0 j0 p9 i).2)) 32)) hx hb d_W_multiplyAndDrop_99 rfl ?_
      refine lv_lstore (lv' := [(6, .long (pu_us (((dg * (f (j0 + i))) + (((wd_mi dg f i0 j0 p9 i).1) (i0 + (j0 + i)))) + ((wd_mi dg f i0 j0 p9 i).2)) 32)), (9, .long (((dg * (f (j0 + i))) + (((wd_mi dg f i0 j0 p9 i).1) (i0 + (j0 + i)))) + ((wd_mi dg f i0 j0 p9 i).2))), (0, .ref h0), (1, .ref h0), (2, .int (nI dr)), (3, .int (nI i0)), (4, .long dg), (8, .int (nI (j0 + i)))]) hx hb d_W_multiplyAndDrop_100 hl (by decide) rfl (fun ls hl => ?_)
      refine lv_iinc (v := (nI (j0 + i + 1))) (lv' := [(8, .int (nI (j0 + i + 1))), (6, .long (pu_us (((dg * (f (j0 + i))) + (((wd_mi dg f i0 j0 p9 i).1) (i0 + (j0 + i)))) + ((wd_mi dg f i0 j0 p9 i).2)) 32)), (9, .long (((dg * (f (j0 + i))) + (((wd_mi dg f i0 j0 p9 i).1) (i0 + (j0 + i)))) + ((wd_mi dg f i0 j0 p9 i).2))), (0, .ref h0), (1, .ref h0), (2, .int (nI dr)), (3, .int (nI i0)), (4, .long dg)]) hx hb d_W_multiplyAndDrop_102 hl (k := 7) rfl (by exact nI_1 (j0 + i)) (by decide) rfl (fun ls hl => ?_)
      refine lv_goto (tgt := 48) hx hb d_W_multiplyAndDrop_105 (by decide) ?_
      exact ih (i + 1) (by omega) _ _ _ hP hD hS (lv_sub hl [3, 4, 5, 6, 7, 1, 0] rfl)
set_option maxHeartbeats 4000000 in
set_option maxRecDepth 100000 in
/-- the rows of the product -/
theorem lp_W_mulOutS {p : Program} {l : Launch} {e : Env} {R : Room} {s : State} {m : MethodId} {args : Array Value} {below : List Frame} {meth : Method} {c : Code} {Q : State → Prop} {A : Nat → Prop} {cells slots : Nat} {dC : Nat → ClassId} {dI : Nat → Nat → Nat} {h0 : Nat} {a0 : Nat} {b0 : Nat} {cL : ClassId} {f : Nat → Int64} {p9 : Nat → Int64} {dr : Nat} (hF : ct_F p s m meth c b_W_multiplyAndDrop none 11 w_W_multiplyAndDrop y_W_multiplyAndDrop args) (hA : ∀ q, s.heap.size ≤ q → A q) (hK : va_K (dC, dI) cl9 [(cL, .long)] s) (hdr : dr ≤ 7) (hRf : 1 ≤ R.frames) (hRl : 21 ≤ R.locals) (hRc : cells ≤ R.cells) (hRs : slots ≤ R.slots)
    (K : ∀ (H : Heap) (locs : List Loc) (ls : Array Slot), va_P (dC, dI) cl9 [(h0, .inr (0, [.ref a0, .ref b0])), (a0, .inl (cL, 7, .inr (.inl f))), (b0, .inl (cL, 14, .inr (.inl (wd_mo f f dr p9 7))))] H → va_D A [(h0, .inr (0, [.ref a0, .ref b0])), (a0, .inl (cL, 7, .inr (.inl f))), (b0, .inl (cL, 14, .inr (.inl (wd_mo f f dr p9 7))))] → va_S A s.heap H locs → lv_has ls 11 [(0, .ref h0), (1, .ref h0), (2, .int (nI dr)), (3, .int (nI 7))] → W p l e R s m args below meth c H locs cells slots Q (F0 m 125 ls [])) :
    ∀ (n9 i : Nat), i + n9 = 7 → ∀ (H : Heap) (locs : List Loc) (ls : Array Slot), va_P (dC, dI) cl9 [(h0, .inr (0, [.ref a0, .ref b0])), (a0, .inl (cL, 7, .inr (.inl f))), (b0, .inl (cL, 14, .inr (.inl (wd_mo f f dr p9 i))))] H → va_D A [(h0, .inr (0, [.ref a0, .ref b0])), (a0, .inl (cL, 7, .inr (.inl f))), (b0, .inl (cL, 14, .inr (.inl (wd_mo f f dr p9 i))))] → va_S A s.heap H locs → lv_has ls 11 [(0, .ref h0), (1, .ref h0), (2, .int (nI dr)), (3, .int (nI i))] → W p l e R s m args below meth c H locs cells slots Q (F0 m 10 ls []) := by
  obtain ⟨hx, hb, hr, hml, hts, hown, hlocks, hnm⟩ := id hF
  have hown : s.vm.findClass R_W = some m.cls := hown
  have ha : ∀ w ∈ al_W, w.before args s = true := fun w h => hts w (List.mem_cons_of_mem _ h)
  intro n9
  induction n9 with
  | zero =>
    intro i hi H locs ls hP hD hS hl
    obtain rfl : 7 = i := by omega
    refine lv_iload_n hx hb d_W_multiplyAndDrop_10 rfl (lv_at hl 3 rfl) ?_
    refine lv_bipush (v := 7) hx hb d_W_multiplyAndDrop_11 (by decide) ?_
    refine lv_icmp_ge (tgt := 125) hx hb d_W_multiplyAndDrop_13 (by decide) (fun hc => ?_) (fun hc => ?_)
    · exact K _ _ _ hP hD hS (lv_sub hl [0, 1, 2, 3] rfl)
    · exact absurd (show nI 7 ≤ nI 7 from nI_le (by omega) (by omega)) hc
  | succ n9 ih =>
    intro i hi H locs ls hP hD hS hl
    have hlt : i < 7 := by omega
    refine lv_iload_n hx hb d_W_multiplyAndDrop_10 rfl (lv_at hl 3 rfl) ?_
    refine lv_bipush (v := 7) hx hb d_W_multiplyAndDrop_11 (by decide) ?_
    refine lv_icmp_ge (tgt := 125) hx hb d_W_multiplyAndDrop_13 (by decide) (fun hc => ?_) (fun hc => ?_)
    · exact absurd (show nI 7 ≤ nI i from hc) (nI_ge (by omega) (by omega))
    · refine lv_aload_n hx hb d_W_multiplyAndDrop_16 rfl (lv_at hl 0 rfl) ?_
      refine va_get (D := (dC, dI)) (ci := 0) (v := .ref a0) (C := R_W) (T := F_W) (N := 2) hx hb ha ui_W hown hK hP 0 rfl rfl 0 (by decide) (ha _ wm_W_5) (fun _ h9 => h9) rfl d_W_multiplyAndDrop_17 ?_
      refine lv_iload_n hx hb d_W_multiplyAndDrop_20 rfl (lv_at hl 3 rfl) ?_
      refine ct_lald hx hb hK hP 1 0 rfl rfl i rfl (by omega) (by omega) d_W_multiplyAndDrop_21 ?_
      refine lv_lstore (lv' := [(4, .long (f i)), (0, .ref h0), (1, .ref h0), (2, .int (nI dr)), (3, .int (nI i))]) hx hb d_W_multiplyAndDrop_22 hl (by decide) rfl (fun ls hl => ?_)
      refine lv_lload hx hb d_W_multiplyAndDrop_24 (lv_at hl 0 rfl) ?_
      refine lv_lconst (v := 0) hx hb d_W_multiplyAndDrop_26 (by decide) ?_
      refine ct_jne (tgt := 34) hx hb d_W_multiplyAndDrop_27 d_W_multiplyAndDrop_28 (by decide) (fun hz => ?_) (fun hz => ?_)
      · refine lv_lconst (v := 0) hx hb d_W_multiplyAndDrop_34 (by decide) ?_
        refine lv_lstore (lv' := [(6, .long 0), (4, .long (f i)), (0, .ref h0), (1, .ref h0), (2, .int (nI dr)), (3, .int (nI i))]) hx hb d_W_multiplyAndDrop_35 hl (by decide) rfl (fun ls hl => ?_)
        refine lv_iconst (v := 0) hx hb d_W_multiplyAndDrop_37 (by decide) ?_
        refine lv_iload_n hx hb d_W_multiplyAndDrop_38 rfl (lv_at hl 4 rfl) ?_
        refine lv_iconst (v := 1) hx hb d_W_multiplyAndDrop_39 (by decide) ?_
        refine lv_isub hx hb d_W_multiplyAndDrop_40 ?_
        refine lv_iload_n hx hb d_W_multiplyAndDrop_41 rfl (lv_at hl 5 rfl) ?_
        refine lv_isub hx hb d_W_multiplyAndDrop_42 ?_
        refine cs_calli (va_runS (As := [.int 0, .int (((nI dr) - 1) - (nI i))]) (rest := []) ⟨hx, hb, hml, hown, ha⟩ (c_max l dC dI 0 (nI dr - 1 - nI i) _) (va_cwS 2 ha g_W_Math_max_III rfl rfl rfl (by decide +kernel) ⟨hRf, hRl⟩) (ct_pre ct_G0ok trivial hK hP hD hS hA [] rfl (by decide) [] rfl) rfl rfl hl.1 rfl (lv_room (Nat.le_of_ble_eq_true rfl)) d_W_multiplyAndDrop_43 ⟨hRc, hRs⟩) hP hD hS hA [] rfl (by decide) (fun _ => rfl) (fun r u H locs hw hP hD hS => ?_)
        have hP : va_P (dC, dI) cl9 [(h0, .inr (0, [.ref a0, .ref b0])), (a0, .inl (cL, 7, .inr (.inl f))), (b0, .inl (cL, 14, .inr (.inl (wd_mo f f dr p9 i))))] H := hP
        have hD : va_D A [(h0, .inr (0, [.ref a0, .ref b0])), (a0, .inl (cL, 7, .inr (.inl f))), (b0, .inl (cL, 14, .inr (.inl (wd_mo f f dr p9 i))))] := hD
        have hr9 : r = nI (dr - 1 - i) := hw.trans (wd_j0 dr (by omega) i (by omega))
        subst hr9
        refine lv_istore (lv' := [(8, .int (nI (dr - 1 - i))), (6, .long 0), (4, .long (f i)), (0, .ref h0), (1, .ref h0), (2, .int (nI dr)), (3, .int (nI i))]) hx hb d_W_multiplyAndDrop_46 hl (by decide) rfl (fun ls hl => ?_)
        refine lp_W_mulInS (h0 := h0) (a0 := a0) (b0 := b0) (cL := cL) (f := f) (p9 := (wd_mo f f dr p9 i)) (dr := dr) (dg := (f i)) (i0 := i) (j0 := (dr - 1 - i)) hF hA hK hlt (by omega) (fun H locs ls hP hD hS hl => ?_) (7 - (dr - 1 - i)) 0 (by omega) _ _ _ hP hD hS (lv_sub hl [3, 4, 5, 6, 2, 1, 0] rfl)
        refine lv_aload_n hx hb d_W_multiplyAndDrop_108 rfl (lv_at hl 0 rfl) ?_
        refine va_get (D := (dC, dI)) (ci := 0) (v := .ref b0) (C := R_W) (T := F_W) (N := 2) hx hb ha ui_W hown hK hP 0 rfl rfl 1 (by decide) (ha _ wm_W_6) (fun _ h9 => h9) rfl d_W_multiplyAndDrop_109 ?_
        refine lv_iload_n hx hb d_W_multiplyAndDrop_112 rfl (lv_at hl 3 rfl) ?_
        refine lv_bipush (v := 7) hx hb d_W_multiplyAndDrop_113 (by decide) ?_
        refine lv_iadd hx hb d_W_multiplyAndDrop_115 ?_
        refine lv_lload hx hb d_W_multiplyAndDrop_116 (lv_at hl 5 rfl) ?_
        refine ct_last hx hb hK hP hD hS 2 0 rfl rfl (i + 7) (nI_add _ _) (by omega) (by omega) d_W_multiplyAndDrop_118 (fun H locs hP hD hS => ?_)
        have hP : va_P (dC, dI) cl9 [(h0, .inr (0, [.ref a0, .ref b0])), (a0, .inl (cL, 7, .inr (.inl f))), (b0, .inl (cL, 14, .inr (.inl (vp_updL ((wd_mi (f i) f i (dr - 1 - i) (wd_mo f f dr p9 i) (7 - (dr - 1 - i))).1) (i + 7) ((wd_mi (f i) f i (dr - 1 - i) (wd_mo f f dr p9 i) (7 - (dr - 1 - i))).2)))))] H := hP
        have hD : va_D A [(h0, .inr (0, [.ref a0, .ref b0])), (a0, .inl (cL, 7, .inr (.inl f))), (b0, .inl (cL, 14, .inr (.inl (vp_updL ((wd_mi (f i) f i (dr - 1 - i) (wd_mo f f dr p9 i) (7 - (dr - 1 - i))).1) (i + 7) ((wd_mi (f i) f i (dr - 1 - i) (wd_mo f f dr p9 i) (7 - (dr - 1 - i))).2)))))] := hD
        refine lv_iinc (v := (nI (i + 1))) (lv' := [(3, .int (nI (i + 1))), (0, .ref h0), (1, .ref h0), (2, .int (nI dr)), (4, .long (f i)), (6, .long ((wd_mi (f i) f i (dr - 1 - i) (wd_mo f f dr p9 i) (7 - (dr - 1 - i))).2)), (8, .int (nI (dr - 1 - i + (7 - (dr - 1 - i)))))]) hx hb d_W_multiplyAndDrop_119 hl (k := 3) rfl (by exact nI_1 i) (by decide) rfl (fun ls hl => ?_)
        refine lv_goto (tgt := 10) hx hb d_W_multiplyAndDrop_122 (by decide) ?_
        have e9 : wd_mo f f dr p9 (i + 1) = vp_updL (wd_mi (f i) f i (dr - 1 - i) (wd_mo f f dr p9 i) (7 - (dr - 1 - i))).1 (i + 7) (wd_mi (f i) f i (dr - 1 - i) (wd_mo f f dr p9 i) (7 - (dr - 1 - i))).2 := if_neg hz
        exact ih (i + 1) (by omega) _ _ _ (by rw [e9]; exact hP) (by rw [e9]; exact hD) hS (lv_sub hl [1, 2, 3, 0] rfl)
      · refine lv_goto (tgt := 119) hx hb d_W_multiplyAndDrop_31 (by decide) ?_
        refine lv_iinc (v := (nI (i + 1))) (lv' := [(3, .int (nI (i + 1))), (4, .long (f i)), (0, .ref h0), (1, .ref h0), (2, .int (nI dr))]) hx hb d_W_multiplyAndDrop_119 hl (k := 4) rfl (by exact nI_1 i) (by decide) rfl (fun ls hl => ?_)
        refine lv_goto (tgt := 10) hx hb d_W_multiplyAndDrop_122 (by decide) ?_
        have e9 : wd_mo f f dr p9 (i + 1) = wd_mo f f dr p9 i := if_pos hz
        exact ih (i + 1) (by omega) _ _ _ (by rw [e9]; exact hP) (by rw [e9]; exact hD) hS (lv_sub hl [2, 3, 4, 0] rfl)
set_option maxHeartbeats 4000000 in
set_option maxRecDepth 100000 in
/-- what is kept of the product -/
theorem lp_W_mulCpS {p : Program} {l : Launch} {e : Env} {R : Room} {s : State} {m : MethodId} {args : Array Value} {below : List Frame} {meth : Method} {c : Code} {Q : State → Prop} {A : Nat → Prop} {cells slots : Nat} {dC : Nat → ClassId} {dI : Nat → Nat → Nat} {h0 : Nat} {a0 : Nat} {b0 : Nat} {cL : ClassId} {f : Nat → Int64} {p9 : Nat → Int64} {dr : Nat} (hF : ct_F p s m meth c b_W_multiplyAndDrop none 11 w_W_multiplyAndDrop y_W_multiplyAndDrop args) (hA : ∀ q, s.heap.size ≤ q → A q) (hK : va_K (dC, dI) cl9 [(cL, .long)] s) (hdr : dr ≤ 7)
    (K : ∀ (H : Heap) (locs : List Loc) (ls : Array Slot), va_P (dC, dI) cl9 [(h0, .inr (0, [.ref a0, .ref b0])), (a0, .inl (cL, 7, .inr (.inl (wd_cp f (fun j => p9 (j + dr)) 7)))), (b0, .inl (cL, 14, .inr (.inl p9)))] H → va_D A [(h0, .inr (0, [.ref a0, .ref b0])), (a0, .inl (cL, 7, .inr (.inl (wd_cp f (fun j => p9 (j + dr)) 7)))), (b0, .inl (cL, 14, .inr (.inl p9)))] → va_S A s.heap H locs → lv_has ls 11 [(0, .ref h0), (2, .int (nI dr)), (3, .int (nI 7))] → W p l e R s m args below meth c H locs cells slots Q (F0 m 153 ls [])) :
    ∀ (n9 i : Nat), i + n9 = 7 → ∀ (H : Heap) (locs : List Loc) (ls : Array Slot), va_P (dC, dI) cl9 [(h0, .inr (0, [.ref a0, .ref b0])), (a0, .inl (cL, 7, .inr (.inl (wd_cp f (fun j => p9 (j + dr)) i)))), (b0, .inl (cL, 14, .inr (.inl p9)))] H → va_D A [(h0, .inr (0, [.ref a0, .ref b0])), (a0, .inl (cL, 7, .inr (.inl (wd_cp f (fun j => p9 (j + dr)) i)))), (b0, .inl (cL, 14, .inr (.inl p9)))] → va_S A s.heap H locs → lv_has ls 11 [(0, .ref h0), (2, .int (nI dr)), (3, .int (nI i))] → W p l e R s m args below meth c H locs cells slots Q (F0 m 127 ls []) := by
  obtain ⟨hx, hb, hr, hml, hts, hown, hlocks, hnm⟩ := id hF
  have hown : s.vm.findClass R_W = some m.cls := hown
  have ha : ∀ w ∈ al_W, w.before args s = true := fun w h => hts w (List.mem_cons_of_mem _ h)
  intro n9
  induction n9 with
  | zero =>
    intro i hi H locs ls hP hD hS hl
    obtain rfl : 7 = i := by omega
    refine lv_iload_n hx hb d_W_multiplyAndDrop_127 rfl (lv_at hl 2 rfl) ?_
    refine lv_bipush (v := 7) hx hb d_W_multiplyAndDrop_128 (by decide) ?_
    refine lv_icmp_ge (tgt := 153) hx hb d_W_multiplyAndDrop_130 (by decide) (fun hc => ?_) (fun hc => ?_)
    · exact K _ _ _ hP hD hS (lv_sub hl [0, 1, 2] rfl)
    · exact absurd (show nI 7 ≤ nI 7 from nI_le (by omega) (by omega)) hc
  | succ n9 ih =>
    intro i hi H locs ls hP hD hS hl
    have hlt : i < 7 := by omega
    refine lv_iload_n hx hb d_W_multiplyAndDrop_127 rfl (lv_at hl 2 rfl) ?_
    refine lv_bipush (v := 7) hx hb d_W_multiplyAndDrop_128 (by decide) ?_
    refine lv_icmp_ge (tgt := 153) hx hb d_W_multiplyAndDrop_130 (by decide) (fun hc => ?_) (fun hc => ?_)
    · exact absurd (show nI 7 ≤ nI i from hc) (nI_ge (by omega) (by omega))
    · refine lv_aload_n hx hb d_W_multiplyAndDrop_133 rfl (lv_at hl 0 rfl) ?_
      refine va_get (D := (dC, dI)) (ci := 0) (v := .ref a0) (C := R_W) (T := F_W) (N := 2) hx hb ha ui_W hown hK hP 0 rfl rfl 0 (by decide) (ha _ wm_W_5) (fun _ h9 => h9) rfl d_W_multiplyAndDrop_134 ?_
      refine lv_iload_n hx hb d_W_multiplyAndDrop_137 rfl (lv_at hl 2 rfl) ?_
      refine lv_aload_n hx hb d_W_multiplyAndDrop_138 rfl (lv_at hl 0 rfl) ?_
      refine va_get (D := (dC, dI)) (ci := 0) (v := .ref b0) (C := R_W) (T := F_W) (N := 2) hx hb ha ui_W hown hK hP 0 rfl rfl 1 (by decide) (ha _ wm_W_6) (fun _ h9 => h9) rfl d_W_multiplyAndDrop_139 ?_
      refine lv_iload_n hx hb d_W_multiplyAndDrop_142 rfl (lv_at hl 2 rfl) ?_
      refine lv_iload_n hx hb d_W_multiplyAndDrop_143 rfl (lv_at hl 1 rfl) ?_
      refine lv_iadd hx hb d_W_multiplyAndDrop_144 ?_
      refine ct_lald hx hb hK hP 2 0 rfl rfl (i + dr) (nI_add _ _) (by omega) (by omega) d_W_multiplyAndDrop_145 ?_
      refine ct_last hx hb hK hP hD hS 1 0 rfl rfl i rfl (by omega) (by omega) d_W_multiplyAndDrop_146 (fun H locs hP hD hS => ?_)
      have hP : va_P (dC, dI) cl9 [(h0, .inr (0, [.ref a0, .ref b0])), (a0, .inl (cL, 7, .inr (.inl (vp_updL (wd_cp f (fun j => p9 (j + dr)) i) i (p9 (i + dr)))))), (b0, .inl (cL, 14, .inr (.inl p9)))] H := hP
      have hD : va_D A [(h0, .inr (0, [.ref a0, .ref b0])), (a0, .inl (cL, 7, .inr (.inl (vp_updL (wd_cp f (fun j => p9 (j + dr)) i) i (p9 (i + dr)))))), (b0, .inl (cL, 14, .inr (.inl p9)))] := hD
      refine lv_iinc (v := (nI (i + 1))) (lv' := [(3, .int (nI (i + 1))), (0, .ref h0), (2, .int (nI dr))]) hx hb d_W_multiplyAndDrop_147 hl (k := 2) rfl (by exact nI_1 i) (by decide) rfl (fun ls hl => ?_)
      refine lv_goto (tgt := 127) hx hb d_W_multiplyAndDrop_150 (by decide) ?_
      rw [wd_cp_s] at hP hD
      exact ih (i + 1) (by omega) _ _ _ hP hD hS (lv_sub hl [1, 2, 0] rfl)
set_option maxHeartbeats 4000000 in
set_option maxRecDepth 100000 in
/-- this times other, dr limbs dropped (other is this) -/
theorem c_W_mulDropS (l : Launch) (dC : Nat → ClassId) (dI : Nat → Nat → Nat) (h0 a0 b0 : Nat) (cL : ClassId) (f p9 : Nat → Int64) (dr : Nat) (hdr : dr ≤ 7) (sz : Nat) : ct_V l y_W_multiplyAndDrop w_W_multiplyAndDrop { frames := 1, cells := 0, slots := 0, locals := 26 } (dC, dI) cl9 [(cL, .long)] ct_G0 [.ref h0, .ref h0, .int (nI dr)] [(h0, .inr (0, [.ref a0, .ref b0])), (a0, .inl (cL, 7, .inr (.inl f))), (b0, .inl (cL, 14, .inr (.inl p9)))] sz (S := (Nat → Int64) × (Nat → Int64)) (fun u : (Nat → Int64) × (Nat → Int64) => u.1 = wd_mul f f dr p9 ∧ u.2 = wd_mo f f dr p9 7) (fun _ : (Nat → Int64) × (Nat → Int64) => [(cL, .long)]) (fun u : (Nat → Int64) × (Nat → Int64) => [(h0, .inr (0, [.ref a0, .ref b0])), (a0, .inl (cL, 7, .inr (.inl u.1))), (b0, .inl (cL, 14, .inr (.inl u.2)))]) 0 0 := by
  refine ct_of (Qf := fun A => va_Qv (fun u : (Nat → Int64) × (Nat → Int64) => u.1 = wd_mul f f dr p9 ∧ u.2 = wd_mo f f dr p9 7) (ct_B (S := (Nat → Int64) × (Nat → Int64)) (dC, dI) cl9 (fun _ : (Nat → Int64) × (Nat → Int64) => [(cL, .long)]) A (fun u : (Nat → Int64) × (Nat → Int64) => [(h0, .inr (0, [.ref a0, .ref b0])), (a0, .inl (cL, 7, .inr (.inl u.1))), (b0, .inl (cL, 14, .inr (.inl u.2)))])) A) (cc := b_W_multiplyAndDrop) (maxL := 11) (ret := none) (by decide) rfl (Nat.le_of_ble_eq_true rfl) ?_
  intro p e s m below meth c A ls hF hA hP hK hD hG hS hl
  obtain ⟨hx, hb, hr, hml, hts, hown, hlocks, hnm⟩ := id hF
  have hown : s.vm.findClass R_W = some m.cls := hown
  have ha : ∀ w ∈ al_W, w.before [.ref h0, .ref h0, .int (nI dr)].toArray s = true := fun w h => hts w (List.mem_cons_of_mem _ h)
  have hl : lv_has ls 11 [(0, .ref h0), (1, .ref h0), (2, .int (nI dr))] := hl
  refine lv_aload_n hx hb d_W_multiplyAndDrop_0 rfl (lv_at hl 0 rfl) ?_
  refine va_get (D := (dC, dI)) (ci := 0) (v := .ref b0) (C := R_W) (T := F_W) (N := 2) hx hb ha ui_W hown hK hP 0 rfl rfl 1 (by decide) (ha _ wm_W_6) (fun _ h9 => h9) rfl d_W_multiplyAndDrop_1 ?_
  refine lv_lconst (v := 0) hx hb d_W_multiplyAndDrop_4 (by decide) ?_
  refine cs_callv (va_runS (As := [.ref b0, .long 0]) (rest := []) ⟨hx, hb, hml, hown, ha⟩ (c_fill l dC dI b0 cL 14 (by omega) p9 0 _) (va_cwS 2 ha g_W_fill rfl rfl rfl (by decide +kernel) ⟨Nat.le_of_ble_eq_true rfl, Nat.le_of_ble_eq_true rfl⟩) (ct_pre ct_G0ok trivial hK hP hD hS hA [2] rfl (by decide) [0] rfl) rfl rfl hl.1 rfl (lv_room (Nat.le_of_ble_eq_true rfl)) d_W_multiplyAndDrop_5 ⟨Nat.le_of_ble_eq_true rfl, Nat.le_of_ble_eq_true rfl⟩) hP hD hS hA [2] rfl (by decide) (fun _ => rfl) (fun u H locs hw hP hD hS => ?_)
  have hP : va_P (dC, dI) cl9 [(h0, .inr (0, [.ref a0, .ref b0])), (a0, .inl (cL, 7, .inr (.inl f))), (b0, .inl (cL, 14, .inr (.inl u)))] H := hP
  have hD : va_D A [(h0, .inr (0, [.ref a0, .ref b0])), (a0, .inl (cL, 7, .inr (.inl f))), (b0, .inl (cL, 14, .inr (.inl u)))] := hD
  subst hw
  have hP : va_P (dC, dI) cl9 [(h0, .inr (0, [.ref a0, .ref b0])), (a0, .inl (cL, 7, .inr (.inl f))), (b0, .inl (cL, 14, .inr (.inl (wd_fl p9 0 14))))] H := hP
  have hD : va_D A [(h0, .inr (0, [.ref a0, .ref b0])), (a0, .inl (cL, 7, .inr (.inl f))), (b0, .inl (cL, 14, .inr (.inl (wd_fl p9 0 14))))] := hD
  refine lv_iconst (v := 0) hx hb d_W_multiplyAndDrop_8 (by decide) ?_
  refine lv_istore_n (lv' := [(3, .int 0), (0, .ref h0), (1, .ref h0), (2, .int (nI dr))]) hx hb d_W_multiplyAndDrop_9 rfl hl (by decide) rfl (fun ls hl => ?_)
  refine lp_W_mulOutS (h0 := h0) (a0 := a0) (b0 := b0) (cL := cL) (f := f) (p9 := p9) (dr := dr) hF hA hK hdr (Nat.le_of_ble_eq_true rfl) (Nat.le_of_ble_eq_true rfl) (Nat.le_of_ble_eq_true rfl) (Nat.le_of_ble_eq_true rfl) (fun H locs ls hP hD hS hl => ?_) 7 0 (by omega) _ _ _ hP hD hS (lv_sub hl [1, 2, 3, 0] rfl)
  refine lv_iconst (v := 0) hx hb d_W_multiplyAndDrop_125 (by decide) ?_
  refine lv_istore_n (lv' := [(3, .int 0), (0, .ref h0), (1, .ref h0), (2, .int (nI dr))]) hx hb d_W_multiplyAndDrop_126 rfl hl (by decide) rfl (fun ls hl => ?_)
  rw [← wd_cp_0 f (fun j => (wd_mo f f dr p9 7) (j + dr))] at hP hD
  refine lp_W_mulCpS (h0 := h0) (a0 := a0) (b0 := b0) (cL := cL) (f := f) (p9 := (wd_mo f f dr p9 7)) (dr := dr) hF hA hK hdr (fun H locs ls hP hD hS hl => ?_) 7 0 (by omega) _ _ _ hP hD hS (lv_sub hl [1, 3, 0] rfl)
  exact ct_vret hF d_W_multiplyAndDrop_153 (wd_mul f f dr p9, (wd_mo f f dr p9 7)) ⟨rfl, rfl⟩ (hP.sub [0, 1, 2] rfl) (hD.sub [0, 1, 2] (by decide) rfl) hK hS
set_option maxHeartbeats 4000000 in
set_option maxRecDepth 100000 in
/-- this times other -/
theorem c_W_multiply (l : Launch) (dC : Nat → ClassId) (dI : Nat → Nat → Nat) (h0 a0 b0 h1 a1 b1 : Nat) (cL : ClassId) (f g p9 : Nat → Int64) (sz : Nat) : ct_V l y_W_multiply w_W_multiply { frames := 2, cells := 0, slots := 0, locals := 56 } (dC, dI) cl9 [(cL, .long)] ct_G0 [.ref h0, .ref h1] [(h0, .inr (0, [.ref a0, .ref b0])), (a0, .inl (cL, 7, .inr (.inl f))), (b0, .inl (cL, 14, .inr (.inl p9))), (h1, .inr (0, [.ref a1, .ref b1])), (a1, .inl (cL, 7, .inr (.inl g)))] sz (S := (Nat → Int64) × (Nat → Int64)) (fun u : (Nat → Int64) × (Nat → Int64) => u.1 = wd_mul f g 5 p9 ∧ u.2 = wd_mo f g 5 p9 7) (fun _ : (Nat → Int64) × (Nat → Int64) => [(cL, .long)]) (fun u : (Nat → Int64) × (Nat → Int64) => [(h0, .inr (0, [.ref a0, .ref b0])), (a0, .inl (cL, 7, .inr (.inl u.1))), (b0, .inl (cL, 14, .inr (.inl u.2))), (h1, .inr (0, [.ref a1, .ref b1])), (a1, .inl (cL, 7, .inr (.inl g)))]) 0 0 := by
  refine ct_of (Qf := fun A => va_Qv (fun u : (Nat → Int64) × (Nat → Int64) => u.1 = wd_mul f g 5 p9 ∧ u.2 = wd_mo f g 5 p9 7) (ct_B (S := (Nat → Int64) × (Nat → Int64)) (dC, dI) cl9 (fun _ : (Nat → Int64) × (Nat → Int64) => [(cL, .long)]) A (fun u : (Nat → Int64) × (Nat → Int64) => [(h0, .inr (0, [.ref a0, .ref b0])), (a0, .inl (cL, 7, .inr (.inl u.1))), (b0, .inl (cL, 14, .inr (.inl u.2))), (h1, .inr (0, [.ref a1, .ref b1])), (a1, .inl (cL, 7, .inr (.inl g)))])) A) (cc := b_W_multiply) (maxL := 2) (ret := none) (by decide) rfl (Nat.le_of_ble_eq_true rfl) ?_
  intro p e s m below meth c A ls hF hA hP hK hD hG hS hl
  obtain ⟨hx, hb, hr, hml, hts, hown, hlocks, hnm⟩ := id hF
  have hown : s.vm.findClass R_W = some m.cls := hown
  have ha : ∀ w ∈ al_W, w.before [.ref h0, .ref h1].toArray s = true := fun w h => hts w (List.mem_cons_of_mem _ h)
  have hl : lv_has ls 2 [(0, .ref h0), (1, .ref h1)] := hl
  refine lv_aload_n hx hb d_W_multiply_0 rfl (lv_at hl 0 rfl) ?_
  refine lv_aload_n hx hb d_W_multiply_1 rfl (lv_at hl 1 rfl) ?_
  refine lv_iconst (v := 5) hx hb d_W_multiply_2 (by decide) ?_
  refine cs_callv (va_runV (As := [.ref h1, .int 5]) (rest := []) ⟨hx, hb, hml, hown, ha⟩ (c_W_mulDrop l dC dI h0 a0 b0 h1 a1 b1 cL f g p9 5 (by omega) _) (cwV 2 ha g_W_W_multiplyAndDrop rfl rfl rfl (by decide +kernel) ⟨Nat.le_of_ble_eq_true rfl, Nat.le_of_ble_eq_true rfl⟩) (ct_preV ct_G0ok trivial hK hP hD hS hA [0, 1, 2, 3, 4] rfl (by decide) [0] rfl 0 0 rfl rfl rfl) rfl rfl hl.1 rfl (lv_room (Nat.le_of_ble_eq_true rfl)) d_W_multiply_3 ⟨Nat.le_of_ble_eq_true rfl, Nat.le_of_ble_eq_true rfl⟩) hP hD hS hA [0, 1, 2, 3, 4] rfl (by decide) (fun _ => rfl) (fun u H locs hw hP hD hS => ?_)
  have hP : va_P (dC, dI) cl9 [(h0, .inr (0, [.ref a0, .ref b0])), (a0, .inl (cL, 7, .inr (.inl u.1))), (b0, .inl (cL, 14, .inr (.inl u.2))), (h1, .inr (0, [.ref a1, .ref b1])), (a1, .inl (cL, 7, .inr (.inl g)))] H := hP
  have hD : va_D A [(h0, .inr (0, [.ref a0, .ref b0])), (a0, .inl (cL, 7, .inr (.inl u.1))), (b0, .inl (cL, 14, .inr (.inl u.2))), (h1, .inr (0, [.ref a1, .ref b1])), (a1, .inl (cL, 7, .inr (.inl g)))] := hD
  exact ct_vret hF d_W_multiply_6 u hw (hP.sub [0, 1, 2, 3, 4] rfl) (hD.sub [0, 1, 2, 3, 4] (by decide) rfl) hK hS
set_option maxHeartbeats 4000000 in
set_option maxRecDepth 100000 in
/-- this times other -/
theorem c_W_multiplyS (l : Launch) (dC : Nat → ClassId) (dI : Nat → Nat → Nat) (h0 a0 b0 : Nat) (cL : ClassId) (f p9 : Nat → Int64) (sz : Nat) : ct_V l y_W_multiply w_W_multiply { frames := 2, cells := 0, slots := 0, locals := 56 } (dC, dI) cl9 [(cL, .long)] ct_G0 [.ref h0, .ref h0] [(h0, .inr (0, [.ref a0, .ref b0])), (a0, .inl (cL, 7, .inr (.inl f))), (b0, .inl (cL, 14, .inr (.inl p9)))] sz (S := (Nat → Int64) × (Nat → Int64)) (fun u : (Nat → Int64) × (Nat → Int64) => u.1 = wd_mul f f 5 p9 ∧ u.2 = wd_mo f f 5 p9 7) (fun _ : (Nat → Int64) × (Nat → Int64) => [(cL, .long)]) (fun u : (Nat → Int64) × (Nat → Int64) => [(h0, .inr (0, [.ref a0, .ref b0])), (a0, .inl (cL, 7, .inr (.inl u.1))), (b0, .inl (cL, 14, .inr (.inl u.2)))]) 0 0 := by
  refine ct_of (Qf := fun A => va_Qv (fun u : (Nat → Int64) × (Nat → Int64) => u.1 = wd_mul f f 5 p9 ∧ u.2 = wd_mo f f 5 p9 7) (ct_B (S := (Nat → Int64) × (Nat → Int64)) (dC, dI) cl9 (fun _ : (Nat → Int64) × (Nat → Int64) => [(cL, .long)]) A (fun u : (Nat → Int64) × (Nat → Int64) => [(h0, .inr (0, [.ref a0, .ref b0])), (a0, .inl (cL, 7, .inr (.inl u.1))), (b0, .inl (cL, 14, .inr (.inl u.2)))])) A) (cc := b_W_multiply) (maxL := 2) (ret := none) (by decide) rfl (Nat.le_of_ble_eq_true rfl) ?_
  intro p e s m below meth c A ls hF hA hP hK hD hG hS hl
  obtain ⟨hx, hb, hr, hml, hts, hown, hlocks, hnm⟩ := id hF
  have hown : s.vm.findClass R_W = some m.cls := hown
  have ha : ∀ w ∈ al_W, w.before [.ref h0, .ref h0].toArray s = true := fun w h => hts w (List.mem_cons_of_mem _ h)
  have hl : lv_has ls 2 [(0, .ref h0), (1, .ref h0)] := hl
  refine lv_aload_n hx hb d_W_multiply_0 rfl (lv_at hl 0 rfl) ?_
  refine lv_aload_n hx hb d_W_multiply_1 rfl (lv_at hl 1 rfl) ?_
  refine lv_iconst (v := 5) hx hb d_W_multiply_2 (by decide) ?_
  refine cs_callv (va_runV (As := [.ref h0, .int 5]) (rest := []) ⟨hx, hb, hml, hown, ha⟩ (c_W_mulDropS l dC dI h0 a0 b0 cL f p9 5 (by omega) _) (cwV 2 ha g_W_W_multiplyAndDrop rfl rfl rfl (by decide +kernel) ⟨Nat.le_of_ble_eq_true rfl, Nat.le_of_ble_eq_true rfl⟩) (ct_preV ct_G0ok trivial hK hP hD hS hA [0, 1, 2] rfl (by decide) [0] rfl 0 0 rfl rfl rfl) rfl rfl hl.1 rfl (lv_room (Nat.le_of_ble_eq_true rfl)) d_W_multiply_3 ⟨Nat.le_of_ble_eq_true rfl, Nat.le_of_ble_eq_true rfl⟩) hP hD hS hA [0, 1, 2] rfl (by decide) (fun _ => rfl) (fun u H locs hw hP hD hS => ?_)
  have hP : va_P (dC, dI) cl9 [(h0, .inr (0, [.ref a0, .ref b0])), (a0, .inl (cL, 7, .inr (.inl u.1))), (b0, .inl (cL, 14, .inr (.inl u.2)))] H := hP
  have hD : va_D A [(h0, .inr (0, [.ref a0, .ref b0])), (a0, .inl (cL, 7, .inr (.inl u.1))), (b0, .inl (cL, 14, .inr (.inl u.2)))] := hD
  exact ct_vret hF d_W_multiply_6 u hw (hP.sub [0, 1, 2] rfl) (hD.sub [0, 1, 2] (by decide) rfl) hK hS
set_option maxHeartbeats 4000000 in
set_option maxRecDepth 100000 in
/-- this times other -/
theorem c_W_multiplyInteger (l : Launch) (dC : Nat → ClassId) (dI : Nat → Nat → Nat) (h0 a0 b0 h1 a1 b1 : Nat) (cL : ClassId) (f g p9 : Nat → Int64) (sz : Nat) : ct_V l y_W_multiplyInteger w_W_multiplyInteger { frames := 2, cells := 0, slots := 0, locals := 56 } (dC, dI) cl9 [(cL, .long)] ct_G0 [.ref h0, .ref h1] [(h0, .inr (0, [.ref a0, .ref b0])), (a0, .inl (cL, 7, .inr (.inl f))), (b0, .inl (cL, 14, .inr (.inl p9))), (h1, .inr (0, [.ref a1, .ref b1])), (a1, .inl (cL, 7, .inr (.inl g)))] sz (S := (Nat → Int64) × (Nat → Int64)) (fun u : (Nat → Int64) × (Nat → Int64) => u.1 = wd_mul f g 0 p9 ∧ u.2 = wd_mo f g 0 p9 7) (fun _ : (Nat → Int64) × (Nat → Int64) => [(cL, .long)]) (fun u : (Nat → Int64) × (Nat → Int64) => [(h0, .inr (0, [.ref a0, .ref b0])), (a0, .inl (cL, 7, .inr (.inl u.1))), (b0, .inl (cL, 14, .inr (.inl u.2))), (h1, .inr (0, [.ref a1, .ref b1])), (a1, .inl (cL, 7, .inr (.inl g)))]) 0 0 := by
  refine ct_of (Qf := fun A => va_Qv (fun u : (Nat → Int64) × (Nat → Int64) => u.1 = wd_mul f g 0 p9 ∧ u.2 = wd_mo f g 0 p9 7) (ct_B (S := (Nat → Int64) × (Nat → Int64)) (dC, dI) cl9 (fun _ : (Nat → Int64) × (Nat → Int64) => [(cL, .long)]) A (fun u : (Nat → Int64) × (Nat → Int64) => [(h0, .inr (0, [.ref a0, .ref b0])), (a0, .inl (cL, 7, .inr (.inl u.1))), (b0, .inl (cL, 14, .inr (.inl u.2))), (h1, .inr (0, [.ref a1, .ref b1])), (a1, .inl (cL, 7, .inr (.inl g)))])) A) (cc := b_W_multiplyInteger) (maxL := 2) (ret := none) (by decide) rfl (Nat.le_of_ble_eq_true rfl) ?_
  intro p e s m below meth c A ls hF hA hP hK hD hG hS hl
  obtain ⟨hx, hb, hr, hml, hts, hown, hlocks, hnm⟩ := id hF
  have hown : s.vm.findClass R_W = some m.cls := hown
  have ha : ∀ w ∈ al_W, w.before [.ref h0, .ref h1].toArray s = true := fun w h => hts w (List.mem_cons_of_mem _ h)
  have hl : lv_has ls 2 [(0, .ref h0), (1, .ref h1)] := hl
  refine lv_aload_n hx hb d_W_multiplyInteger_0 rfl (lv_at hl 0 rfl) ?_
  refine lv_aload_n hx hb d_W_multiplyInteger_1 rfl (lv_at hl 1 rfl) ?_
  refine lv_iconst (v := 0) hx hb d_W_multiplyInteger_2 (by decide) ?_
  refine cs_callv (va_runV (As := [.ref h1, .int 0]) (rest := []) ⟨hx, hb, hml, hown, ha⟩ (c_W_mulDrop l dC dI h0 a0 b0 h1 a1 b1 cL f g p9 0 (by omega) _) (cwV 2 ha g_W_W_multiplyAndDrop rfl rfl rfl (by decide +kernel) ⟨Nat.le_of_ble_eq_true rfl, Nat.le_of_ble_eq_true rfl⟩) (ct_preV ct_G0ok trivial hK hP hD hS hA [0, 1, 2, 3, 4] rfl (by decide) [0] rfl 0 0 rfl rfl rfl) rfl rfl hl.1 rfl (lv_room (Nat.le_of_ble_eq_true rfl)) d_W_multiplyInteger_3 ⟨Nat.le_of_ble_eq_true rfl, Nat.le_of_ble_eq_true rfl⟩) hP hD hS hA [0, 1, 2, 3, 4] rfl (by decide) (fun _ => rfl) (fun u H locs hw hP hD hS => ?_)
  have hP : va_P (dC, dI) cl9 [(h0, .inr (0, [.ref a0, .ref b0])), (a0, .inl (cL, 7, .inr (.inl u.1))), (b0, .inl (cL, 14, .inr (.inl u.2))), (h1, .inr (0, [.ref a1, .ref b1])), (a1, .inl (cL, 7, .inr (.inl g)))] H := hP
  have hD : va_D A [(h0, .inr (0, [.ref a0, .ref b0])), (a0, .inl (cL, 7, .inr (.inl u.1))), (b0, .inl (cL, 14, .inr (.inl u.2))), (h1, .inr (0, [.ref a1, .ref b1])), (a1, .inl (cL, 7, .inr (.inl g)))] := hD
  exact ct_vret hF d_W_multiplyInteger_6 u hw (hP.sub [0, 1, 2, 3, 4] rfl) (hD.sub [0, 1, 2, 3, 4] (by decide) rfl) hK hS
set_option maxHeartbeats 4000000 in
set_option maxRecDepth 100000 in
/-- isAbove's loop -/
theorem lp_W_isAbove {p : Program} {l : Launch} {e : Env} {R : Room} {s : State} {m : MethodId} {args : Array Value} {below : List Frame} {meth : Method} {c : Code} {Q : State → Prop} {A : Nat → Prop} {cells slots : Nat} {dC : Nat → ClassId} {dI : Nat → Nat → Nat} {h0 : Nat} {a0 : Nat} {b0 : Nat} {h1 : Nat} {a1 : Nat} {b1 : Nat} {cL : ClassId} {f : Nat → Int64} {g : Nat → Int64} (hF : ct_F p s m meth c b_W_isAbove ((some .boolean)) 3 w_W_isAbove y_W_isAbove args) (hA : ∀ q, s.heap.size ≤ q → A q) (hK : va_K (dC, dI) cl9 [(cL, .long)] s) (Kx : ∀ (n9 : Nat), n9 < 7 → ¬ f n9 = g n9 → wd_ab f g 7 = wd_ab f g (n9 + 1) → ∀ (H : Heap) (locs : List Loc) (ls : Array Slot), va_P (dC, dI) cl9 [(h0, .inr (0, [.ref a0, .ref b0])), (a0, .inl (cL, 7, .inr (.inl f))), (h1, .inr (0, [.ref a1, .ref b1])), (a1, .inl (cL, 7, .inr (.inl g)))] H → va_D A [(h0, .inr (0, [.ref a0, .ref b0])), (a0, .inl (cL, 7, .inr (.inl f))), (h1, .inr (0, [.ref a1, .ref b1])), (a1, .inl (cL, 7, .inr (.inl g)))] → va_S A s.heap H locs → lv_has ls 3 [(0, .ref h0), (1, .ref h1), (2, .int (nI n9))] → W p l e R s m args below meth c H locs cells slots Q (F0 m 23 ls []))
    (K : (wd_ab f g 7 = wd_ab f g 0) → ∀ (H : Heap) (locs : List Loc) (ls : Array Slot), va_P (dC, dI) cl9 [(h0, .inr (0, [.ref a0, .ref b0])), (a0, .inl (cL, 7, .inr (.inl f))), (h1, .inr (0, [.ref a1, .ref b1])), (a1, .inl (cL, 7, .inr (.inl g)))] H → va_D A [(h0, .inr (0, [.ref a0, .ref b0])), (a0, .inl (cL, 7, .inr (.inl f))), (h1, .inr (0, [.ref a1, .ref b1])), (a1, .inl (cL, 7, .inr (.inl g)))] → va_S A s.heap H locs → lv_has ls 3 [(0, .ref h0), (1, .ref h1), (2, .int (nI 0 + (-1)))] → W p l e R s m args below meth c H locs cells slots Q (F0 m 51 ls [])) :
    ∀ (n9 i : Nat), i + n9 = 7 → (wd_ab f g 7 = wd_ab f g n9) → ∀ (H : Heap) (locs : List Loc) (ls : Array Slot), va_P (dC, dI) cl9 [(h0, .inr (0, [.ref a0, .ref b0])), (a0, .inl (cL, 7, .inr (.inl f))), (h1, .inr (0, [.ref a1, .ref b1])), (a1, .inl (cL, 7, .inr (.inl g)))] H → va_D A [(h0, .inr (0, [.ref a0, .ref b0])), (a0, .inl (cL, 7, .inr (.inl f))), (h1, .inr (0, [.ref a1, .ref b1])), (a1, .inl (cL, 7, .inr (.inl g)))] → va_S A s.heap H locs → lv_has ls 3 [(0, .ref h0), (1, .ref h1), (2, .int (nI n9 + (-1)))] → W p l e R s m args below meth c H locs cells slots Q (F0 m 3 ls []) := by
  obtain ⟨hx, hb, hr, hml, hts, hown, hlocks, hnm⟩ := id hF
  have hown : s.vm.findClass R_W = some m.cls := hown
  have ha : ∀ w ∈ al_W, w.before args s = true := fun w h => hts w (List.mem_cons_of_mem _ h)
  intro n9
  induction n9 with
  | zero =>
    intro i hi hinv H locs ls hP hD hS hl
    obtain rfl : 7 = i := by omega
    refine lv_iload_n hx hb d_W_isAbove_3 rfl (lv_at hl 2 rfl) ?_
    refine lv_if_lt (tgt := 51) hx hb d_W_isAbove_4 (by decide) (fun hc => ?_) (fun hc => ?_)
    · exact K hinv _ _ _ hP hD hS (lv_sub hl [0, 1, 2] rfl)
    · exact absurd (by decide) hc
  | succ n9 ih =>
    intro i hi hinv H locs ls hP hD hS hl
    have hlt : i < 7 := by omega
    rw [pk_m1] at hl
    refine lv_iload_n hx hb d_W_isAbove_3 rfl (lv_at hl 2 rfl) ?_
    refine lv_if_lt (tgt := 51) hx hb d_W_isAbove_4 (by decide) (fun hc => ?_) (fun hc => ?_)
    · exact absurd hc (nI_pos (by omega))
    · refine lv_aload_n hx hb d_W_isAbove_7 rfl (lv_at hl 0 rfl) ?_
      refine va_get (D := (dC, dI)) (ci := 0) (v := .ref a0) (C := R_W) (T := F_W) (N := 2) hx hb ha ui_W hown hK hP 0 rfl rfl 0 (by decide) (ha _ wm_W_5) (fun _ h9 => h9) rfl d_W_isAbove_8 ?_
      refine lv_iload_n hx hb d_W_isAbove_11 rfl (lv_at hl 2 rfl) ?_
      refine ct_lald hx hb hK hP 1 0 rfl rfl n9 rfl (by omega) (by omega) d_W_isAbove_12 ?_
      refine lv_aload_n hx hb d_W_isAbove_13 rfl (lv_at hl 1 rfl) ?_
      refine va_get (D := (dC, dI)) (ci := 0) (v := .ref a1) (C := R_W) (T := F_W) (N := 2) hx hb ha ui_W hown hK hP 2 rfl rfl 0 (by decide) (ha _ wm_W_5) (fun _ h9 => h9) rfl d_W_isAbove_14 ?_
      refine lv_iload_n hx hb d_W_isAbove_17 rfl (lv_at hl 2 rfl) ?_
      refine ct_lald hx hb hK hP 3 0 rfl rfl n9 rfl (by omega) (by omega) d_W_isAbove_18 ?_
      refine ct_jeq (tgt := 45) hx hb d_W_isAbove_19 d_W_isAbove_20 (by decide) (fun hz => ?_) (fun hz => ?_)
      · refine lv_iinc (v := ((nI n9) + (-1))) (lv' := [(2, .int ((nI n9) + (-1))), (0, .ref h0), (1, .ref h1)]) hx hb d_W_isAbove_45 hl (k := 2) rfl (rfl) (by decide) rfl (fun ls hl => ?_)
        refine lv_goto (tgt := 3) hx hb d_W_isAbove_48 (by decide) ?_
        exact ih (i + 1) (by omega) (hinv.trans (if_pos hz)) _ _ _ hP hD hS (lv_sub hl [1, 2, 0] rfl)
      · exact Kx n9 (by omega) hz hinv _ _ _ hP hD hS (lv_sub hl [0, 1, 2] rfl)
set_option maxHeartbeats 4000000 in
set_option maxRecDepth 100000 in
/-- whether this is greater than other -/
theorem c_W_isAbove (l : Launch) (dC : Nat → ClassId) (dI : Nat → Nat → Nat) (h0 a0 b0 h1 a1 b1 : Nat) (cL : ClassId) (f g : Nat → Int64) (sz : Nat) : ct_I l y_W_isAbove w_W_isAbove { frames := 0, cells := 0, slots := 0, locals := 0 } (dC, dI) cl9 [(cL, .long)] ct_G0 [.ref h0, .ref h1] [(h0, .inr (0, [.ref a0, .ref b0])), (a0, .inl (cL, 7, .inr (.inl f))), (h1, .inr (0, [.ref a1, .ref b1])), (a1, .inl (cL, 7, .inr (.inl g)))] sz (S := Unit) (fun r _ => r = wd_ab f g 7) (fun _ : Unit => [(cL, .long)]) (fun _ => [(h0, .inr (0, [.ref a0, .ref b0])), (a0, .inl (cL, 7, .inr (.inl f))), (h1, .inr (0, [.ref a1, .ref b1])), (a1, .inl (cL, 7, .inr (.inl g)))]) 0 0 := by
  refine ct_of (Qf := fun A => va_Qi (fun r _ => r = wd_ab f g 7) (ct_B (S := Unit) (dC, dI) cl9 (fun _ : Unit => [(cL, .long)]) A (fun _ => [(h0, .inr (0, [.ref a0, .ref b0])), (a0, .inl (cL, 7, .inr (.inl f))), (h1, .inr (0, [.ref a1, .ref b1])), (a1, .inl (cL, 7, .inr (.inl g)))])) A) (cc := b_W_isAbove) (maxL := 3) (ret := ((some .boolean))) (by decide) rfl (Nat.le_of_ble_eq_true rfl) ?_
  intro p e s m below meth c A ls hF hA hP hK hD hG hS hl
  obtain ⟨hx, hb, hr, hml, hts, hown, hlocks, hnm⟩ := id hF
  have hown : s.vm.findClass R_W = some m.cls := hown
  have ha : ∀ w ∈ al_W, w.before [.ref h0, .ref h1].toArray s = true := fun w h => hts w (List.mem_cons_of_mem _ h)
  have hl : lv_has ls 3 [(0, .ref h0), (1, .ref h1)] := hl
  refine lv_bipush (v := 6) hx hb d_W_isAbove_0 (by decide) ?_
  refine lv_istore_n (lv' := [(2, .int 6), (0, .ref h0), (1, .ref h1)]) hx hb d_W_isAbove_2 rfl hl (by decide) rfl (fun ls hl => ?_)
  refine lp_W_isAbove (h0 := h0) (a0 := a0) (b0 := b0) (h1 := h1) (a1 := a1) (b1 := b1) (cL := cL) (f := f) (g := g) hF hA hK (fun n9 hi hz he H locs ls hP hD hS hl => ?_) (fun hinv H locs ls hP hD hS hl => ?_) 7 0 (by omega) rfl _ _ _ hP hD hS (lv_sub hl [1, 2, 0] rfl)
  · refine lv_aload_n hx hb d_W_isAbove_23 rfl (lv_at hl 0 rfl) ?_
    refine va_get (D := (dC, dI)) (ci := 0) (v := .ref a0) (C := R_W) (T := F_W) (N := 2) hx hb ha ui_W hown hK hP 0 rfl rfl 0 (by decide) (ha _ wm_W_5) (fun _ h9 => h9) rfl d_W_isAbove_24 ?_
    refine lv_iload_n hx hb d_W_isAbove_27 rfl (lv_at hl 2 rfl) ?_
    refine ct_lald hx hb hK hP 1 0 rfl rfl n9 rfl (by omega) (by omega) d_W_isAbove_28 ?_
    refine lv_aload_n hx hb d_W_isAbove_29 rfl (lv_at hl 1 rfl) ?_
    refine va_get (D := (dC, dI)) (ci := 0) (v := .ref a1) (C := R_W) (T := F_W) (N := 2) hx hb ha ui_W hown hK hP 2 rfl rfl 0 (by decide) (ha _ wm_W_5) (fun _ h9 => h9) rfl d_W_isAbove_30 ?_
    refine lv_iload_n hx hb d_W_isAbove_33 rfl (lv_at hl 2 rfl) ?_
    refine ct_lald hx hb hK hP 3 0 rfl rfl n9 rfl (by omega) (by omega) d_W_isAbove_34 ?_
    refine ct_jle (tgt := 43) hx hb d_W_isAbove_35 d_W_isAbove_36 (by decide) (fun hc => ?_) (fun hc => ?_)
    · refine lv_iconst (v := 0) hx hb d_W_isAbove_43 (by decide) ?_
      exact ct_zret hF d_W_isAbove_44 (by decide) () (he.trans ((if_neg hz).trans (if_neg (fun q => ct_nlt hc q)))).symm (hP.sub [0, 1, 2, 3] rfl) (hD.sub [0, 1, 2, 3] (by decide) rfl) hK hS
    · refine lv_iconst (v := 1) hx hb d_W_isAbove_39 (by decide) ?_
      refine lv_goto (tgt := 44) hx hb d_W_isAbove_40 (by decide) ?_
      exact ct_zret hF d_W_isAbove_44 (by decide) () (he.trans ((if_neg hz).trans (if_pos (Int64.not_le.mp hc)))).symm (hP.sub [0, 1, 2, 3] rfl) (hD.sub [0, 1, 2, 3] (by decide) rfl) hK hS
  · refine lv_iconst (v := 0) hx hb d_W_isAbove_51 (by decide) ?_
    exact ct_zret hF d_W_isAbove_52 (by decide) () hinv.symm (hP.sub [0, 1, 2, 3] rfl) (hD.sub [0, 1, 2, 3] (by decide) rfl) hK hS
set_option maxHeartbeats 4000000 in
set_option maxRecDepth 100000 in
/-- Wide(): two new arrays of zeros -/
theorem c_W_init (l : Launch) (dC : Nat → ClassId) (dI : Nat → Nat → Nat) (h0 : Nat) (cL : ClassId) (sz : Nat) : ct_V l y_W_init w_W_init { frames := 1, cells := 2, slots := 21, locals := 12 } (dC, dI) cl9 [(cL, .long)] ct_G0 [.ref h0] [(h0, .inr (0, [.null, .null]))] sz (S := Nat × Nat) (fun _ => True) (fun _ : Nat × Nat => [(cL, .long)]) (fun u : Nat × Nat => [(h0, .inr (0, [.ref u.1, .ref u.2])), (u.1, .inl (cL, 7, .inr (.inl (fun _ => 0)))), (u.2, .inl (cL, 14, .inr (.inl (fun _ => 0))))]) 2 21 := by
  refine ct_of (Qf := fun A => va_Qv (fun _ => True) (ct_B (S := Nat × Nat) (dC, dI) cl9 (fun _ : Nat × Nat => [(cL, .long)]) A (fun u : Nat × Nat => [(h0, .inr (0, [.ref u.1, .ref u.2])), (u.1, .inl (cL, 7, .inr (.inl (fun _ => 0)))), (u.2, .inl (cL, 14, .inr (.inl (fun _ => 0))))])) A) (cc := b_W_init) (maxL := 1) (ret := none) (by decide) rfl (Nat.le_of_ble_eq_true rfl) ?_
  intro p e s m below meth c A ls hF hA hP hK hD hG hS hl
  obtain ⟨hx, hb, hr, hml, hts, hown, hlocks, hnm⟩ := id hF
  have hown : s.vm.findClass R_W = some m.cls := hown
  have ha : ∀ w ∈ al_W, w.before [.ref h0].toArray s = true := fun w h => hts w (List.mem_cons_of_mem _ h)
  have hl : lv_has ls 1 [(0, .ref h0)] := hl
  have hin : meth.name = "<init>" := hnm
  refine lv_aload_n hx hb d_W_init_0 rfl (lv_at hl 0 rfl) ?_
  refine W.objInit hx hb hown (ha _ wm_W_4) (ha _ wm_W_74) (ha _ wm_W_75) rfl (by rw [hml]; exact hl.1) rfl d_W_init_1 (Nat.le_of_ble_eq_true rfl) (Nat.le_of_ble_eq_true rfl) ?_
  refine W.eq (g2 := F0 m 4 ls []) rfl ?_
  refine lv_aload_n hx hb d_W_init_4 rfl (lv_at hl 0 rfl) ?_
  refine lv_bipush (v := 7) hx hb d_W_init_5 (by decide) ?_
  refine va_newa (atype := .long) hx hb (ha _ wm_W_82) (ty := .long) rfl hK hP hD hS hA (N' := 7) (a0 := (7, .inr (.inl (fun _ => 0)))) (fun _ => rfl) (by decide) (by decide) (by decide) (Nat.le_of_ble_eq_true rfl) (Nat.le_of_ble_eq_true rfl) d_W_init_7 (fun q1 c9 H hK9 hP hD hS => ?_)
  obtain rfl := ct_sameL hK9 0 1 rfl rfl
  have hP : va_P (dC, dI) cl9 [(h0, .inr (0, [.null, .null])), (q1, .inl (cL, 7, .inr (.inl (fun _ => 0))))] H := hP
  have hD : va_D A [(h0, .inr (0, [.null, .null])), (q1, .inl (cL, 7, .inr (.inl (fun _ => 0))))] := hD
  refine va_putF (D := (dC, dI)) (ci := 0) (v := .ref q1) (ty := (.array .long)) (C := R_W) (T := F_W) (N := 2) hx hb ha ui_W ft_W tk_W nm_W hown hK hP hD hS 0 rfl rfl 0 (by decide) (ha _ wm_W_5) (fun _ h9 => h9) rfl hin rfl (by decide +kernel) rfl rfl (Nat.le_of_ble_eq_true rfl) d_W_init_9 (fun H locs hP hD hS => ?_)
  have hP : va_P (dC, dI) cl9 [(h0, .inr (0, [.ref q1, .null])), (q1, .inl (cL, 7, .inr (.inl (fun _ => 0))))] H := hP
  have hD : va_D A [(h0, .inr (0, [.ref q1, .null])), (q1, .inl (cL, 7, .inr (.inl (fun _ => 0))))] := hD
  refine lv_aload_n hx hb d_W_init_12 rfl (lv_at hl 0 rfl) ?_
  refine lv_bipush (v := 14) hx hb d_W_init_13 (by decide) ?_
  refine va_newa (atype := .long) hx hb (ha _ wm_W_82) (ty := .long) rfl hK hP hD hS hA (N' := 14) (a0 := (14, .inr (.inl (fun _ => 0)))) (fun _ => rfl) (by decide) (by decide) (by decide) (Nat.le_of_ble_eq_true rfl) (Nat.le_of_ble_eq_true rfl) d_W_init_15 (fun q2 c9 H hK9 hP hD hS => ?_)
  obtain rfl := ct_sameL hK9 0 1 rfl rfl
  have hP : va_P (dC, dI) cl9 [(h0, .inr (0, [.ref q1, .null])), (q1, .inl (cL, 7, .inr (.inl (fun _ => 0)))), (q2, .inl (cL, 14, .inr (.inl (fun _ => 0))))] H := hP
  have hD : va_D A [(h0, .inr (0, [.ref q1, .null])), (q1, .inl (cL, 7, .inr (.inl (fun _ => 0)))), (q2, .inl (cL, 14, .inr (.inl (fun _ => 0))))] := hD
  refine va_putF (D := (dC, dI)) (ci := 0) (v := .ref q2) (ty := (.array .long)) (C := R_W) (T := F_W) (N := 2) hx hb ha ui_W ft_W tk_W nm_W hown hK hP hD hS 0 rfl rfl 1 (by decide) (ha _ wm_W_6) (fun _ h9 => h9) rfl hin rfl (by decide +kernel) rfl rfl (Nat.le_of_ble_eq_true rfl) d_W_init_17 (fun H locs hP hD hS => ?_)
  have hP : va_P (dC, dI) cl9 [(h0, .inr (0, [.ref q1, .ref q2])), (q1, .inl (cL, 7, .inr (.inl (fun _ => 0)))), (q2, .inl (cL, 14, .inr (.inl (fun _ => 0))))] H := hP
  have hD : va_D A [(h0, .inr (0, [.ref q1, .ref q2])), (q1, .inl (cL, 7, .inr (.inl (fun _ => 0)))), (q2, .inl (cL, 14, .inr (.inl (fun _ => 0))))] := hD
  exact ct_vret hF d_W_init_20 (q1, q2) trivial (hP.sub [0, 1, 2] rfl) (hD.sub [0, 1, 2] (by decide) rfl) hK hS
