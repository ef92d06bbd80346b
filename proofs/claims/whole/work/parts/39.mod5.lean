set_option maxHeartbeats 4000000 in
set_option maxRecDepth 100000 in
/-- isOpen's loop -/
theorem lp_M_isOpen {p : Program} {l : Launch} {e : Env} {R : Room} {s : State} {m : MethodId} {args : Array Value} {below : List Frame} {meth : Method} {c : Code} {Q : State → Prop} {A : Nat → Prop} {cells slots : Nat} {dC : Nat → ClassId} {dI : Nat → Nat → Nat} {mx : Nat} {th : Int32} {sd : Int64} {nt : Int32} {ro : Nat} {pl : Nat} {vl : Nat} {pa : Nat} {pr : Nat} {cL : ClassId} {g : Nat → Int64} {r : Nat} (hF : ct_F p s m meth c b_M_isOpen ((some .boolean)) 5 w_M_isOpen y_M_isOpen args) (hA : ∀ q, s.heap.size ≤ q → A q) (hK : va_K (dC, dI) cl9 [(cL, .long)] s) (hr9 : r < 10)
    (K : ∀ (H : Heap) (locs : List Loc) (ls : Array Slot), va_P (dC, dI) cl9 [(mx, .inr (4, [.int th, .long sd, .int nt, .ref ro, .ref pl, .ref vl, .int (nI 11), .ref pa, .ref pr])), (pa, .inl (cL, 240, .inr (.inl g)))] H → va_D A [(mx, .inr (4, [.int th, .long sd, .int nt, .ref ro, .ref pl, .ref vl, .int (nI 11), .ref pa, .ref pr])), (pa, .inl (cL, 240, .inr (.inl g)))] → va_S A s.heap H locs → lv_has ls 5 [(0, .ref mx), (1, .int (nI r)), (2, .int (md_ol r g 0 6)), (3, .int (md_ol r g 999999 6)), (4, .int (nI (5 + 0) + (-1)))] → W p l e R s m args below meth c H locs cells slots Q (F0 m 95 ls [])) :
    ∀ (n9 i : Nat), i + n9 = 6 → ∀ (H : Heap) (locs : List Loc) (ls : Array Slot), va_P (dC, dI) cl9 [(mx, .inr (4, [.int th, .long sd, .int nt, .ref ro, .ref pl, .ref vl, .int (nI 11), .ref pa, .ref pr])), (pa, .inl (cL, 240, .inr (.inl g)))] H → va_D A [(mx, .inr (4, [.int th, .long sd, .int nt, .ref ro, .ref pl, .ref vl, .int (nI 11), .ref pa, .ref pr])), (pa, .inl (cL, 240, .inr (.inl g)))] → va_S A s.heap H locs → lv_has ls 5 [(0, .ref mx), (1, .int (nI r)), (2, .int (md_ol r g 0 i)), (3, .int (md_ol r g 999999 i)), (4, .int (nI (5 + n9) + (-1)))] → W p l e R s m args below meth c H locs cells slots Q (F0 m 12 ls []) := by
  obtain ⟨hx, hb, hr, hml, hts, hown, hlocks, hnm⟩ := id hF
  have hown : s.vm.findClass R_M = some m.cls := hown
  have ha : ∀ w ∈ al_M, w.before args s = true := fun w h => hts w (List.mem_cons_of_mem _ h)
  intro n9
  induction n9 with
  | zero =>
    intro i hi H locs ls hP hD hS hl
    obtain rfl : 6 = i := by omega
    refine lv_iload hx hb d_M_isOpen_12 (lv_at hl 4 rfl) ?_
    refine lv_aload_n hx hb d_M_isOpen_14 rfl (lv_at hl 0 rfl) ?_
    refine va_get (D := (dC, dI)) (ci := 4) (v := .int (nI 11)) (C := R_M) (T := F_M) (N := 9) hx hb ha ui_M hown hK hP 0 rfl rfl 6 (by decide) (ha _ wm_M_11) (fun _ h9 => h9) rfl d_M_isOpen_15 ?_
    refine lv_bipush (v := 6) hx hb d_M_isOpen_18 (by decide) ?_
    refine lv_isub hx hb d_M_isOpen_20 ?_
    refine lv_icmp_lt (tgt := 95) hx hb d_M_isOpen_21 (by decide) (fun hc => ?_) (fun hc => ?_)
    · exact K _ _ _ hP hD hS (lv_sub hl [0, 1, 2, 3, 4] rfl)
    · exact absurd (by decide) hc
  | succ n9 ih =>
    intro i hi H locs ls hP hD hS hl
    have hlt : i < 6 := by omega
    have e7 : nI (5 + (n9 + 1)) + (-1) = nI (5 + n9) := pk_m1 (5 + n9)
    rw [e7] at hl
    refine lv_iload hx hb d_M_isOpen_12 (lv_at hl 4 rfl) ?_
    refine lv_aload_n hx hb d_M_isOpen_14 rfl (lv_at hl 0 rfl) ?_
    refine va_get (D := (dC, dI)) (ci := 4) (v := .int (nI 11)) (C := R_M) (T := F_M) (N := 9) hx hb ha ui_M hown hK hP 0 rfl rfl 6 (by decide) (ha _ wm_M_11) (fun _ h9 => h9) rfl d_M_isOpen_15 ?_
    refine lv_bipush (v := 6) hx hb d_M_isOpen_18 (by decide) ?_
    refine lv_isub hx hb d_M_isOpen_20 ?_
    refine lv_icmp_lt (tgt := 95) hx hb d_M_isOpen_21 (by decide) (fun hc => ?_) (fun hc => ?_)
    · exact absurd (show nI (5 + n9) < nI 5 from hc) (nI_nlt (by omega) (by omega))
    · refine lv_aload_n hx hb d_M_isOpen_24 rfl (lv_at hl 0 rfl) ?_
      refine va_get (D := (dC, dI)) (ci := 4) (v := .int (nI 11)) (C := R_M) (T := F_M) (N := 9) hx hb ha ui_M hown hK hP 0 rfl rfl 6 (by decide) (ha _ wm_M_11) (fun _ h9 => h9) rfl d_M_isOpen_25 ?_
      refine lv_bipush (v := 11) hx hb d_M_isOpen_28 (by decide) ?_
      refine lv_icmp_ne (tgt := 95) hx hb d_M_isOpen_30 (by decide) (fun hd => ?_) (fun hd => ?_)
      · exact absurd rfl hd
      · have ek : 24 * r + (10 - i) = 24 * r + (5 + n9) := by omega
        refine lv_iload_n hx hb d_M_isOpen_33 rfl (lv_at hl 2 rfl) ?_
        refine lv_if_eq (tgt := 58) hx hb d_M_isOpen_34 (by decide) (fun h1 => ?_) (fun h1 => ?_)
        · refine lv_iconst (v := 0) hx hb d_M_isOpen_58 (by decide) ?_
          rw [show (0 : Int32) = md_ol r g 0 (i + 1) from (if_pos h1).symm]
          refine lv_istore_n (lv' := [(2, .int (md_ol r g 0 (i + 1))), (0, .ref mx), (1, .int (nI r)), (3, .int (md_ol r g 999999 i)), (4, .int (nI (5 + n9)))]) hx hb d_M_isOpen_59 rfl hl (by decide) rfl (fun ls hl => ?_)
          refine lv_iload_n hx hb d_M_isOpen_60 rfl (lv_at hl 3 rfl) ?_
          refine lv_if_eq (tgt := 87) hx hb d_M_isOpen_61 (by decide) (fun h3 => ?_) (fun h3 => ?_)
          · refine lv_iconst (v := 0) hx hb d_M_isOpen_87 (by decide) ?_
            rw [show (0 : Int32) = md_ol r g 999999 (i + 1) from (if_pos h3).symm]
            refine lv_istore_n (lv' := [(3, .int (md_ol r g 999999 (i + 1))), (2, .int (md_ol r g 0 (i + 1))), (0, .ref mx), (1, .int (nI r)), (4, .int (nI (5 + n9)))]) hx hb d_M_isOpen_88 rfl hl (by decide) rfl (fun ls hl => ?_)
            refine lv_iinc (v := ((nI (5 + n9)) + (-1))) (lv' := [(4, .int ((nI (5 + n9)) + (-1))), (3, .int (md_ol r g 999999 (i + 1))), (2, .int (md_ol r g 0 (i + 1))), (0, .ref mx), (1, .int (nI r))]) hx hb d_M_isOpen_89 hl (k := 4) rfl (rfl) (by decide) rfl (fun ls hl => ?_)
            refine lv_goto (tgt := 12) hx hb d_M_isOpen_92 (by decide) ?_
            exact ih (i + 1) (by omega) _ _ _ hP hD hS (lv_sub hl [3, 4, 2, 1, 0] rfl)
          · refine lv_aload_n hx hb d_M_isOpen_64 rfl (lv_at hl 1 rfl) ?_
            refine va_get (D := (dC, dI)) (ci := 4) (v := .ref pa) (C := R_M) (T := F_M) (N := 9) hx hb ha ui_M hown hK hP 0 rfl rfl 7 (by decide) (ha _ wm_M_12) (fun _ h9 => h9) rfl d_M_isOpen_65 ?_
            refine lv_bipush (v := 24) hx hb d_M_isOpen_68 (by decide) ?_
            refine lv_iload_n hx hb d_M_isOpen_70 rfl (lv_at hl 2 rfl) ?_
            refine lv_imul hx hb d_M_isOpen_71 ?_
            refine lv_iload hx hb d_M_isOpen_72 (lv_at hl 4 rfl) ?_
            refine lv_iadd hx hb d_M_isOpen_74 ?_
            refine ct_lald hx hb hK hP 1 0 rfl rfl (24 * r + (5 + n9)) (md_ix r (5 + n9)) (by omega) (by omega) d_M_isOpen_75 ?_
            refine lv_ldc2 (v := 999999) hx hb hown (ha _ wm_M_73) d_M_isOpen_76 ?_
            refine ct_jne (tgt := 87) hx hb d_M_isOpen_79 d_M_isOpen_80 (by decide) (fun h4 => ?_) (fun h4 => ?_)
            · refine lv_iconst (v := 0) hx hb d_M_isOpen_87 (by decide) ?_
              rw [show (0 : Int32) = md_ol r g 999999 (i + 1) from ((if_neg h3).trans (if_neg (by rw [ek]; exact h4))).symm]
              refine lv_istore_n (lv' := [(3, .int (md_ol r g 999999 (i + 1))), (2, .int (md_ol r g 0 (i + 1))), (0, .ref mx), (1, .int (nI r)), (4, .int (nI (5 + n9)))]) hx hb d_M_isOpen_88 rfl hl (by decide) rfl (fun ls hl => ?_)
              refine lv_iinc (v := ((nI (5 + n9)) + (-1))) (lv' := [(4, .int ((nI (5 + n9)) + (-1))), (3, .int (md_ol r g 999999 (i + 1))), (2, .int (md_ol r g 0 (i + 1))), (0, .ref mx), (1, .int (nI r))]) hx hb d_M_isOpen_89 hl (k := 4) rfl (rfl) (by decide) rfl (fun ls hl => ?_)
              refine lv_goto (tgt := 12) hx hb d_M_isOpen_92 (by decide) ?_
              exact ih (i + 1) (by omega) _ _ _ hP hD hS (lv_sub hl [3, 4, 2, 1, 0] rfl)
            · refine lv_iconst (v := 1) hx hb d_M_isOpen_83 (by decide) ?_
              refine lv_goto (tgt := 88) hx hb d_M_isOpen_84 (by decide) ?_
              rw [show (1 : Int32) = md_ol r g 999999 (i + 1) from ((if_neg h3).trans (if_pos (by rw [ek]; exact h4))).symm]
              refine lv_istore_n (lv' := [(3, .int (md_ol r g 999999 (i + 1))), (2, .int (md_ol r g 0 (i + 1))), (0, .ref mx), (1, .int (nI r)), (4, .int (nI (5 + n9)))]) hx hb d_M_isOpen_88 rfl hl (by decide) rfl (fun ls hl => ?_)
              refine lv_iinc (v := ((nI (5 + n9)) + (-1))) (lv' := [(4, .int ((nI (5 + n9)) + (-1))), (3, .int (md_ol r g 999999 (i + 1))), (2, .int (md_ol r g 0 (i + 1))), (0, .ref mx), (1, .int (nI r))]) hx hb d_M_isOpen_89 hl (k := 4) rfl (rfl) (by decide) rfl (fun ls hl => ?_)
              refine lv_goto (tgt := 12) hx hb d_M_isOpen_92 (by decide) ?_
              exact ih (i + 1) (by omega) _ _ _ hP hD hS (lv_sub hl [3, 4, 2, 1, 0] rfl)
        · refine lv_aload_n hx hb d_M_isOpen_37 rfl (lv_at hl 0 rfl) ?_
          refine va_get (D := (dC, dI)) (ci := 4) (v := .ref pa) (C := R_M) (T := F_M) (N := 9) hx hb ha ui_M hown hK hP 0 rfl rfl 7 (by decide) (ha _ wm_M_12) (fun _ h9 => h9) rfl d_M_isOpen_38 ?_
          refine lv_bipush (v := 24) hx hb d_M_isOpen_41 (by decide) ?_
          refine lv_iload_n hx hb d_M_isOpen_43 rfl (lv_at hl 1 rfl) ?_
          refine lv_imul hx hb d_M_isOpen_44 ?_
          refine lv_iload hx hb d_M_isOpen_45 (lv_at hl 4 rfl) ?_
          refine lv_iadd hx hb d_M_isOpen_47 ?_
          refine ct_lald hx hb hK hP 1 0 rfl rfl (24 * r + (5 + n9)) (md_ix r (5 + n9)) (by omega) (by omega) d_M_isOpen_48 ?_
          refine lv_lconst (v := 0) hx hb d_M_isOpen_49 (by decide) ?_
          refine ct_jne (tgt := 58) hx hb d_M_isOpen_50 d_M_isOpen_51 (by decide) (fun h2 => ?_) (fun h2 => ?_)
          · refine lv_iconst (v := 0) hx hb d_M_isOpen_58 (by decide) ?_
            rw [show (0 : Int32) = md_ol r g 0 (i + 1) from ((if_neg h1).trans (if_neg (by rw [ek]; exact h2))).symm]
            refine lv_istore_n (lv' := [(2, .int (md_ol r g 0 (i + 1))), (0, .ref mx), (1, .int (nI r)), (3, .int (md_ol r g 999999 i)), (4, .int (nI (5 + n9)))]) hx hb d_M_isOpen_59 rfl hl (by decide) rfl (fun ls hl => ?_)
            refine lv_iload_n hx hb d_M_isOpen_60 rfl (lv_at hl 3 rfl) ?_
            refine lv_if_eq (tgt := 87) hx hb d_M_isOpen_61 (by decide) (fun h3 => ?_) (fun h3 => ?_)
            · refine lv_iconst (v := 0) hx hb d_M_isOpen_87 (by decide) ?_
              rw [show (0 : Int32) = md_ol r g 999999 (i + 1) from (if_pos h3).symm]
              refine lv_istore_n (lv' := [(3, .int (md_ol r g 999999 (i + 1))), (2, .int (md_ol r g 0 (i + 1))), (0, .ref mx), (1, .int (nI r)), (4, .int (nI (5 + n9)))]) hx hb d_M_isOpen_88 rfl hl (by decide) rfl (fun ls hl => ?_)
              refine lv_iinc (v := ((nI (5 + n9)) + (-1))) (lv' := [(4, .int ((nI (5 + n9)) + (-1))), (3, .int (md_ol r g 999999 (i + 1))), (2, .int (md_ol r g 0 (i + 1))), (0, .ref mx), (1, .int (nI r))]) hx hb d_M_isOpen_89 hl (k := 4) rfl (rfl) (by decide) rfl (fun ls hl => ?_)
              refine lv_goto (tgt := 12) hx hb d_M_isOpen_92 (by decide) ?_
              exact ih (i + 1) (by omega) _ _ _ hP hD hS (lv_sub hl [3, 4, 2, 1, 0] rfl)
            · refine lv_aload_n hx hb d_M_isOpen_64 rfl (lv_at hl 1 rfl) ?_
              refine va_get (D := (dC, dI)) (ci := 4) (v := .ref pa) (C := R_M) (T := F_M) (N := 9) hx hb ha ui_M hown hK hP 0 rfl rfl 7 (by decide) (ha _ wm_M_12) (fun _ h9 => h9) rfl d_M_isOpen_65 ?_
              refine lv_bipush (v := 24) hx hb d_M_isOpen_68 (by decide) ?_
              refine lv_iload_n hx hb d_M_isOpen_70 rfl (lv_at hl 2 rfl) ?_
              refine lv_imul hx hb d_M_isOpen_71 ?_
              refine lv_iload hx hb d_M_isOpen_72 (lv_at hl 4 rfl) ?_
              refine lv_iadd hx hb d_M_isOpen_74 ?_
              refine ct_lald hx hb hK hP 1 0 rfl rfl (24 * r + (5 + n9)) (md_ix r (5 + n9)) (by omega) (by omega) d_M_isOpen_75 ?_
              refine lv_ldc2 (v := 999999) hx hb hown (ha _ wm_M_73) d_M_isOpen_76 ?_
              refine ct_jne (tgt := 87) hx hb d_M_isOpen_79 d_M_isOpen_80 (by decide) (fun h4 => ?_) (fun h4 => ?_)
              · refine lv_iconst (v := 0) hx hb d_M_isOpen_87 (by decide) ?_
                rw [show (0 : Int32) = md_ol r g 999999 (i + 1) from ((if_neg h3).trans (if_neg (by rw [ek]; exact h4))).symm]
                refine lv_istore_n (lv' := [(3, .int (md_ol r g 999999 (i + 1))), (2, .int (md_ol r g 0 (i + 1))), (0, .ref mx), (1, .int (nI r)), (4, .int (nI (5 + n9)))]) hx hb d_M_isOpen_88 rfl hl (by decide) rfl (fun ls hl => ?_)
                refine lv_iinc (v := ((nI (5 + n9)) + (-1))) (lv' := [(4, .int ((nI (5 + n9)) + (-1))), (3, .int (md_ol r g 999999 (i + 1))), (2, .int (md_ol r g 0 (i + 1))), (0, .ref mx), (1, .int (nI r))]) hx hb d_M_isOpen_89 hl (k := 4) rfl (rfl) (by decide) rfl (fun ls hl => ?_)
                refine lv_goto (tgt := 12) hx hb d_M_isOpen_92 (by decide) ?_
                exact ih (i + 1) (by omega) _ _ _ hP hD hS (lv_sub hl [3, 4, 2, 1, 0] rfl)
              · refine lv_iconst (v := 1) hx hb d_M_isOpen_83 (by decide) ?_
                refine lv_goto (tgt := 88) hx hb d_M_isOpen_84 (by decide) ?_
                rw [show (1 : Int32) = md_ol r g 999999 (i + 1) from ((if_neg h3).trans (if_pos (by rw [ek]; exact h4))).symm]
                refine lv_istore_n (lv' := [(3, .int (md_ol r g 999999 (i + 1))), (2, .int (md_ol r g 0 (i + 1))), (0, .ref mx), (1, .int (nI r)), (4, .int (nI (5 + n9)))]) hx hb d_M_isOpen_88 rfl hl (by decide) rfl (fun ls hl => ?_)
                refine lv_iinc (v := ((nI (5 + n9)) + (-1))) (lv' := [(4, .int ((nI (5 + n9)) + (-1))), (3, .int (md_ol r g 999999 (i + 1))), (2, .int (md_ol r g 0 (i + 1))), (0, .ref mx), (1, .int (nI r))]) hx hb d_M_isOpen_89 hl (k := 4) rfl (rfl) (by decide) rfl (fun ls hl => ?_)
                refine lv_goto (tgt := 12) hx hb d_M_isOpen_92 (by decide) ?_
                exact ih (i + 1) (by omega) _ _ _ hP hD hS (lv_sub hl [3, 4, 2, 1, 0] rfl)
          · refine lv_iconst (v := 1) hx hb d_M_isOpen_54 (by decide) ?_
            refine lv_goto (tgt := 59) hx hb d_M_isOpen_55 (by decide) ?_
            rw [show (1 : Int32) = md_ol r g 0 (i + 1) from ((if_neg h1).trans (if_pos (by rw [ek]; exact h2))).symm]
            refine lv_istore_n (lv' := [(2, .int (md_ol r g 0 (i + 1))), (0, .ref mx), (1, .int (nI r)), (3, .int (md_ol r g 999999 i)), (4, .int (nI (5 + n9)))]) hx hb d_M_isOpen_59 rfl hl (by decide) rfl (fun ls hl => ?_)
            refine lv_iload_n hx hb d_M_isOpen_60 rfl (lv_at hl 3 rfl) ?_
            refine lv_if_eq (tgt := 87) hx hb d_M_isOpen_61 (by decide) (fun h3 => ?_) (fun h3 => ?_)
            · refine lv_iconst (v := 0) hx hb d_M_isOpen_87 (by decide) ?_
              rw [show (0 : Int32) = md_ol r g 999999 (i + 1) from (if_pos h3).symm]
              refine lv_istore_n (lv' := [(3, .int (md_ol r g 999999 (i + 1))), (2, .int (md_ol r g 0 (i + 1))), (0, .ref mx), (1, .int (nI r)), (4, .int (nI (5 + n9)))]) hx hb d_M_isOpen_88 rfl hl (by decide) rfl (fun ls hl => ?_)
              refine lv_iinc (v := ((nI (5 + n9)) + (-1))) (lv' := [(4, .int ((nI (5 + n9)) + (-1))), (3, .int (md_ol r g 999999 (i + 1))), (2, .int (md_ol r g 0 (i + 1))), (0, .ref mx), (1, .int (nI r))]) hx hb d_M_isOpen_89 hl (k := 4) rfl (rfl) (by decide) rfl (fun ls hl => ?_)
              refine lv_goto (tgt := 12) hx hb d_M_isOpen_92 (by decide) ?_
              exact ih (i + 1) (by omega) _ _ _ hP hD hS (lv_sub hl [3, 4, 2, 1, 0] rfl)
            · refine lv_aload_n hx hb d_M_isOpen_64 rfl (lv_at hl 1 rfl) ?_
              refine va_get (D := (dC, dI)) (ci := 4) (v := .ref pa) (C := R_M) (T := F_M) (N := 9) hx hb ha ui_M hown hK hP 0 rfl rfl 7 (by decide) (ha _ wm_M_12) (fun _ h9 => h9) rfl d_M_isOpen_65 ?_
              refine lv_bipush (v := 24) hx hb d_M_isOpen_68 (by decide) ?_
              refine lv_iload_n hx hb d_M_isOpen_70 rfl (lv_at hl 2 rfl) ?_
              refine lv_imul hx hb d_M_isOpen_71 ?_
              refine lv_iload hx hb d_M_isOpen_72 (lv_at hl 4 rfl) ?_
              refine lv_iadd hx hb d_M_isOpen_74 ?_
              refine ct_lald hx hb hK hP 1 0 rfl rfl (24 * r + (5 + n9)) (md_ix r (5 + n9)) (by omega) (by omega) d_M_isOpen_75 ?_
              refine lv_ldc2 (v := 999999) hx hb hown (ha _ wm_M_73) d_M_isOpen_76 ?_
              refine ct_jne (tgt := 87) hx hb d_M_isOpen_79 d_M_isOpen_80 (by decide) (fun h4 => ?_) (fun h4 => ?_)
              · refine lv_iconst (v := 0) hx hb d_M_isOpen_87 (by decide) ?_
                rw [show (0 : Int32) = md_ol r g 999999 (i + 1) from ((if_neg h3).trans (if_neg (by rw [ek]; exact h4))).symm]
                refine lv_istore_n (lv' := [(3, .int (md_ol r g 999999 (i + 1))), (2, .int (md_ol r g 0 (i + 1))), (0, .ref mx), (1, .int (nI r)), (4, .int (nI (5 + n9)))]) hx hb d_M_isOpen_88 rfl hl (by decide) rfl (fun ls hl => ?_)
                refine lv_iinc (v := ((nI (5 + n9)) + (-1))) (lv' := [(4, .int ((nI (5 + n9)) + (-1))), (3, .int (md_ol r g 999999 (i + 1))), (2, .int (md_ol r g 0 (i + 1))), (0, .ref mx), (1, .int (nI r))]) hx hb d_M_isOpen_89 hl (k := 4) rfl (rfl) (by decide) rfl (fun ls hl => ?_)
                refine lv_goto (tgt := 12) hx hb d_M_isOpen_92 (by decide) ?_
                exact ih (i + 1) (by omega) _ _ _ hP hD hS (lv_sub hl [3, 4, 2, 1, 0] rfl)
              · refine lv_iconst (v := 1) hx hb d_M_isOpen_83 (by decide) ?_
                refine lv_goto (tgt := 88) hx hb d_M_isOpen_84 (by decide) ?_
                rw [show (1 : Int32) = md_ol r g 999999 (i + 1) from ((if_neg h3).trans (if_pos (by rw [ek]; exact h4))).symm]
                refine lv_istore_n (lv' := [(3, .int (md_ol r g 999999 (i + 1))), (2, .int (md_ol r g 0 (i + 1))), (0, .ref mx), (1, .int (nI r)), (4, .int (nI (5 + n9)))]) hx hb d_M_isOpen_88 rfl hl (by decide) rfl (fun ls hl => ?_)
                refine lv_iinc (v := ((nI (5 + n9)) + (-1))) (lv' := [(4, .int ((nI (5 + n9)) + (-1))), (3, .int (md_ol r g 999999 (i + 1))), (2, .int (md_ol r g 0 (i + 1))), (0, .ref mx), (1, .int (nI r))]) hx hb d_M_isOpen_89 hl (k := 4) rfl (rfl) (by decide) rfl (fun ls hl => ?_)
                refine lv_goto (tgt := 12) hx hb d_M_isOpen_92 (by decide) ?_
                exact ih (i + 1) (by omega) _ _ _ hP hD hS (lv_sub hl [3, 4, 2, 1, 0] rfl)
set_option maxHeartbeats 4000000 in
set_option maxRecDepth 100000 in
/-- whether the billionth is open, of few parts -/
theorem c_M_isOpen (l : Launch) (dC : Nat → ClassId) (dI : Nat → Nat → Nat) (mx : Nat) (th : Int32) (sd : Int64) (nt : Int32) (ro : Nat) (pl : Nat) (vl : Nat) (pa : Nat) (pr : Nat) (cL : ClassId) (g : Nat → Int64) (r : Nat) (hr9 : r < 10) (sz : Nat) : ct_I l y_M_isOpen w_M_isOpen { frames := 0, cells := 0, slots := 0, locals := 0 } (dC, dI) cl9 [(cL, .long)] ct_G0 [.ref mx, .int (nI r)] [(mx, .inr (4, [.int th, .long sd, .int nt, .ref ro, .ref pl, .ref vl, .int (nI 11), .ref pa, .ref pr])), (pa, .inl (cL, 240, .inr (.inl g)))] sz (S := Unit) (fun z _ => z = md_op r g) (fun _ : Unit => [(cL, .long)]) (fun _ => [(mx, .inr (4, [.int th, .long sd, .int nt, .ref ro, .ref pl, .ref vl, .int (nI 11), .ref pa, .ref pr])), (pa, .inl (cL, 240, .inr (.inl g)))]) 0 0 := by
  refine ct_of (Qf := fun A => va_Qi (fun z _ => z = md_op r g) (ct_B (S := Unit) (dC, dI) cl9 (fun _ : Unit => [(cL, .long)]) A (fun _ => [(mx, .inr (4, [.int th, .long sd, .int nt, .ref ro, .ref pl, .ref vl, .int (nI 11), .ref pa, .ref pr])), (pa, .inl (cL, 240, .inr (.inl g)))])) A) (cc := b_M_isOpen) (maxL := 5) (ret := ((some .boolean))) (by decide) rfl (Nat.le_of_ble_eq_true rfl) ?_
  intro p e s m below meth c A ls hF hA hP hK hD hG hS hl
  obtain ⟨hx, hb, hr, hml, hts, hown, hlocks, hnm⟩ := id hF
  have hown : s.vm.findClass R_M = some m.cls := hown
  have ha : ∀ w ∈ al_M, w.before [.ref mx, .int (nI r)].toArray s = true := fun w h => hts w (List.mem_cons_of_mem _ h)
  have hl : lv_has ls 5 [(0, .ref mx), (1, .int (nI r))] := hl
  refine lv_iconst (v := 1) hx hb d_M_isOpen_0 (by decide) ?_
  refine lv_istore_n (lv' := [(2, .int 1), (0, .ref mx), (1, .int (nI r))]) hx hb d_M_isOpen_1 rfl hl (by decide) rfl (fun ls hl => ?_)
  refine lv_iconst (v := 1) hx hb d_M_isOpen_2 (by decide) ?_
  refine lv_istore_n (lv' := [(3, .int 1), (2, .int 1), (0, .ref mx), (1, .int (nI r))]) hx hb d_M_isOpen_3 rfl hl (by decide) rfl (fun ls hl => ?_)
  refine lv_aload_n hx hb d_M_isOpen_4 rfl (lv_at hl 2 rfl) ?_
  refine va_get (D := (dC, dI)) (ci := 4) (v := .int (nI 11)) (C := R_M) (T := F_M) (N := 9) hx hb ha ui_M hown hK hP 0 rfl rfl 6 (by decide) (ha _ wm_M_11) (fun _ h9 => h9) rfl d_M_isOpen_5 ?_
  refine lv_iconst (v := 1) hx hb d_M_isOpen_8 (by decide) ?_
  refine lv_isub hx hb d_M_isOpen_9 ?_
  refine lv_istore (lv' := [(4, .int ((nI 11) - 1)), (3, .int 1), (2, .int 1), (0, .ref mx), (1, .int (nI r))]) hx hb d_M_isOpen_10 hl (by decide) rfl (fun ls hl => ?_)
  have hl : lv_has ls 5 [(4, .int (nI (5 + 6) + (-1))), (3, .int (md_ol r g 999999 0)), (2, .int (md_ol r g 0 0)), (0, .ref mx), (1, .int (nI r))] := hl
  refine lp_M_isOpen (mx := mx) (th := th) (sd := sd) (nt := nt) (ro := ro) (pl := pl) (vl := vl) (pa := pa) (pr := pr) (cL := cL) (g := g) (r := r) hF hA hK hr9 (fun H locs ls hP hD hS hl => ?_) 6 0 (by omega) _ _ _ hP hD hS (lv_sub hl [3, 4, 2, 1, 0] rfl)
  refine lv_aload_n hx hb d_M_isOpen_95 rfl (lv_at hl 0 rfl) ?_
  refine va_get (D := (dC, dI)) (ci := 4) (v := .int (nI 11)) (C := R_M) (T := F_M) (N := 9) hx hb ha ui_M hown hK hP 0 rfl rfl 6 (by decide) (ha _ wm_M_11) (fun _ h9 => h9) rfl d_M_isOpen_96 ?_
  refine lv_bipush (v := 11) hx hb d_M_isOpen_99 (by decide) ?_
  refine lv_icmp_ne (tgt := 116) hx hb d_M_isOpen_101 (by decide) (fun h0 => ?_) (fun h0 => ?_)
  · exact absurd rfl h0
  · refine lv_iload_n hx hb d_M_isOpen_104 rfl (lv_at hl 2 rfl) ?_
    refine lv_if_ne (tgt := 112) hx hb d_M_isOpen_105 (by decide) (fun h1 => ?_) (fun h1 => ?_)
    · refine lv_iconst (v := 1) hx hb d_M_isOpen_112 (by decide) ?_
      refine lv_goto (tgt := 117) hx hb d_M_isOpen_113 (by decide) ?_
      exact ct_zret hF d_M_isOpen_117 (by decide) () (if_neg h1).symm (hP.sub [0, 1] rfl) (hD.sub [0, 1] (by decide) rfl) hK hS
    · refine lv_iload_n hx hb d_M_isOpen_108 rfl (lv_at hl 3 rfl) ?_
      refine lv_if_eq (tgt := 116) hx hb d_M_isOpen_109 (by decide) (fun h2 => ?_) (fun h2 => ?_)
      · refine lv_iconst (v := 0) hx hb d_M_isOpen_116 (by decide) ?_
        exact ct_zret hF d_M_isOpen_117 (by decide) () ((if_pos h1).trans (if_pos h2)).symm (hP.sub [0, 1] rfl) (hD.sub [0, 1] (by decide) rfl) hK hS
      · refine lv_iconst (v := 1) hx hb d_M_isOpen_112 (by decide) ?_
        refine lv_goto (tgt := 117) hx hb d_M_isOpen_113 (by decide) ?_
        exact ct_zret hF d_M_isOpen_117 (by decide) () ((if_pos h1).trans (if_neg h2)).symm (hP.sub [0, 1] rfl) (hD.sub [0, 1] (by decide) rfl) hK hS
set_option maxHeartbeats 4000000 in
set_option maxRecDepth 100000 in
/-- of many parts it never is -/
theorem c_M_isOpen17 (l : Launch) (dC : Nat → ClassId) (dI : Nat → Nat → Nat) (mx : Nat) (th : Int32) (sd : Int64) (nt : Int32) (ro : Nat) (pl : Nat) (vl : Nat) (pa : Nat) (pr : Nat) (cL : ClassId) (g : Nat → Int64) (r : Nat) (hr9 : r < 10) (sz : Nat) : ct_I l y_M_isOpen w_M_isOpen { frames := 0, cells := 0, slots := 0, locals := 0 } (dC, dI) cl9 [(cL, .long)] ct_G0 [.ref mx, .int (nI r)] [(mx, .inr (4, [.int th, .long sd, .int nt, .ref ro, .ref pl, .ref vl, .int (nI 17), .ref pa, .ref pr])), (pa, .inl (cL, 240, .inr (.inl g)))] sz (S := Unit) (fun z _ => z = 0) (fun _ : Unit => [(cL, .long)]) (fun _ => [(mx, .inr (4, [.int th, .long sd, .int nt, .ref ro, .ref pl, .ref vl, .int (nI 17), .ref pa, .ref pr])), (pa, .inl (cL, 240, .inr (.inl g)))]) 0 0 := by
  refine ct_of (Qf := fun A => va_Qi (fun z _ => z = 0) (ct_B (S := Unit) (dC, dI) cl9 (fun _ : Unit => [(cL, .long)]) A (fun _ => [(mx, .inr (4, [.int th, .long sd, .int nt, .ref ro, .ref pl, .ref vl, .int (nI 17), .ref pa, .ref pr])), (pa, .inl (cL, 240, .inr (.inl g)))])) A) (cc := b_M_isOpen) (maxL := 5) (ret := ((some .boolean))) (by decide) rfl (Nat.le_of_ble_eq_true rfl) ?_
  intro p e s m below meth c A ls hF hA hP hK hD hG hS hl
  obtain ⟨hx, hb, hr, hml, hts, hown, hlocks, hnm⟩ := id hF
  have hown : s.vm.findClass R_M = some m.cls := hown
  have ha : ∀ w ∈ al_M, w.before [.ref mx, .int (nI r)].toArray s = true := fun w h => hts w (List.mem_cons_of_mem _ h)
  have hl : lv_has ls 5 [(0, .ref mx), (1, .int (nI r))] := hl
  refine lv_iconst (v := 1) hx hb d_M_isOpen_0 (by decide) ?_
  refine lv_istore_n (lv' := [(2, .int 1), (0, .ref mx), (1, .int (nI r))]) hx hb d_M_isOpen_1 rfl hl (by decide) rfl (fun ls hl => ?_)
  refine lv_iconst (v := 1) hx hb d_M_isOpen_2 (by decide) ?_
  refine lv_istore_n (lv' := [(3, .int 1), (2, .int 1), (0, .ref mx), (1, .int (nI r))]) hx hb d_M_isOpen_3 rfl hl (by decide) rfl (fun ls hl => ?_)
  refine lv_aload_n hx hb d_M_isOpen_4 rfl (lv_at hl 2 rfl) ?_
  refine va_get (D := (dC, dI)) (ci := 4) (v := .int (nI 17)) (C := R_M) (T := F_M) (N := 9) hx hb ha ui_M hown hK hP 0 rfl rfl 6 (by decide) (ha _ wm_M_11) (fun _ h9 => h9) rfl d_M_isOpen_5 ?_
  refine lv_iconst (v := 1) hx hb d_M_isOpen_8 (by decide) ?_
  refine lv_isub hx hb d_M_isOpen_9 ?_
  refine lv_istore (lv' := [(4, .int ((nI 17) - 1)), (3, .int 1), (2, .int 1), (0, .ref mx), (1, .int (nI r))]) hx hb d_M_isOpen_10 hl (by decide) rfl (fun ls hl => ?_)
  refine lv_iload hx hb d_M_isOpen_12 (lv_at hl 0 rfl) ?_
  refine lv_aload_n hx hb d_M_isOpen_14 rfl (lv_at hl 3 rfl) ?_
  refine va_get (D := (dC, dI)) (ci := 4) (v := .int (nI 17)) (C := R_M) (T := F_M) (N := 9) hx hb ha ui_M hown hK hP 0 rfl rfl 6 (by decide) (ha _ wm_M_11) (fun _ h9 => h9) rfl d_M_isOpen_15 ?_
  refine lv_bipush (v := 6) hx hb d_M_isOpen_18 (by decide) ?_
  refine lv_isub hx hb d_M_isOpen_20 ?_
  refine lv_icmp_lt (tgt := 95) hx hb d_M_isOpen_21 (by decide) (fun h0 => ?_) (fun h0 => ?_)
  · exact absurd h0 (by decide)
  · refine lv_aload_n hx hb d_M_isOpen_24 rfl (lv_at hl 3 rfl) ?_
    refine va_get (D := (dC, dI)) (ci := 4) (v := .int (nI 17)) (C := R_M) (T := F_M) (N := 9) hx hb ha ui_M hown hK hP 0 rfl rfl 6 (by decide) (ha _ wm_M_11) (fun _ h9 => h9) rfl d_M_isOpen_25 ?_
    refine lv_bipush (v := 11) hx hb d_M_isOpen_28 (by decide) ?_
    refine lv_icmp_ne (tgt := 95) hx hb d_M_isOpen_30 (by decide) (fun h1 => ?_) (fun h1 => ?_)
    · refine lv_aload_n hx hb d_M_isOpen_95 rfl (lv_at hl 3 rfl) ?_
      refine va_get (D := (dC, dI)) (ci := 4) (v := .int (nI 17)) (C := R_M) (T := F_M) (N := 9) hx hb ha ui_M hown hK hP 0 rfl rfl 6 (by decide) (ha _ wm_M_11) (fun _ h9 => h9) rfl d_M_isOpen_96 ?_
      refine lv_bipush (v := 11) hx hb d_M_isOpen_99 (by decide) ?_
      refine lv_icmp_ne (tgt := 116) hx hb d_M_isOpen_101 (by decide) (fun h2 => ?_) (fun h2 => ?_)
      · refine lv_iconst (v := 0) hx hb d_M_isOpen_116 (by decide) ?_
        exact ct_zret hF d_M_isOpen_117 (by decide) () rfl (hP.sub [0, 1] rfl) (hD.sub [0, 1] (by decide) rfl) hK hS
      · exact absurd h2 (by decide)
    · exact absurd h1 (by decide)
set_option maxHeartbeats 4000000 in
set_option maxRecDepth 100000 in
/-- which it threw -/
theorem c_M_thrown (l : Launch) (dC : Nat → ClassId) (dI : Nat → Nat → Nat) (mx : Nat) (th : Int32) (sd : Int64) (nt : Int32) (ro : Nat) (pl : Nat) (vl : Nat) (f : Nat) (pa : Nat) (pr : Nat)  (sz : Nat) : ct_I l y_M_thrown w_M_thrown { frames := 0, cells := 0, slots := 0, locals := 0 } (dC, dI) cl9 [] ct_G0 [.ref mx] [(mx, .inr (4, [.int th, .long sd, .int nt, .ref ro, .ref pl, .ref vl, .int (nI f), .ref pa, .ref pr]))] sz (S := Unit) (fun z _ => z = th) (fun _ : Unit => []) (fun _ => [(mx, .inr (4, [.int th, .long sd, .int nt, .ref ro, .ref pl, .ref vl, .int (nI f), .ref pa, .ref pr]))]) 0 0 := by
  refine ct_of (Qf := fun A => va_Qi (fun z _ => z = th) (ct_B (S := Unit) (dC, dI) cl9 (fun _ : Unit => []) A (fun _ => [(mx, .inr (4, [.int th, .long sd, .int nt, .ref ro, .ref pl, .ref vl, .int (nI f), .ref pa, .ref pr]))])) A) (cc := b_M_thrown) (maxL := 1) (ret := ((some .int))) (by decide) rfl (Nat.le_of_ble_eq_true rfl) ?_
  intro p e s m below meth c A ls hF hA hP hK hD hG hS hl
  obtain ⟨hx, hb, hr, hml, hts, hown, hlocks, hnm⟩ := id hF
  have hown : s.vm.findClass R_M = some m.cls := hown
  have ha : ∀ w ∈ al_M, w.before [.ref mx].toArray s = true := fun w h => hts w (List.mem_cons_of_mem _ h)
  have hl : lv_has ls 1 [(0, .ref mx)] := hl
  refine lv_aload_n hx hb d_M_thrown_0 rfl (lv_at hl 0 rfl) ?_
  refine va_get (D := (dC, dI)) (ci := 4) (v := .int th) (C := R_M) (T := F_M) (N := 9) hx hb ha ui_M hown hK hP 0 rfl rfl 0 (by decide) (ha _ wm_M_5) (fun _ h9 => h9) rfl d_M_thrown_1 ?_
  exact ct_iret hF d_M_thrown_4 () rfl (hP.sub [0] rfl) (hD.sub [0] (by decide) rfl) hK hS
set_option maxHeartbeats 4000000 in
set_option maxRecDepth 100000 in
/-- HouseFunctionsModel(seed) -/
theorem c_M_init (l : Launch) (dC : Nat → ClassId) (dI : Nat → Nat → Nat) (mx : Nat) (cL cI : ClassId) (sd : Int64) (sz : Nat) : ct_V l y_M_init w_M_init { frames := 1, cells := 5, slots := 534, locals := 12 } (dC, dI) cl9 [(cL, .long), (cI, .int)] ct_G0 [.ref mx, .long sd] [(mx, .inr (4, [.int 0, .long 0, .int 0, .null, .null, .null, .int 0, .null, .null]))] sz (S := Nat × Nat × Nat × Nat × Nat) (fun _ => True) (fun _ : Nat × Nat × Nat × Nat × Nat => [(cL, .long), (cI, .int)]) (fun u : Nat × Nat × Nat × Nat × Nat => [(mx, .inr (4, [.int 0, .long sd, .int 0, .ref u.1, .ref u.2.1, .ref u.2.2.1, .int 11, .ref u.2.2.2.1, .ref u.2.2.2.2])), (u.1, .inl (cI, 6, .inl (fun _ => 0))), (u.2.1, .inl (cI, 120, .inl (fun _ => 0))), (u.2.2.1, .inl (cI, 120, .inl (fun _ => 0))), (u.2.2.2.1, .inl (cL, 240, .inr (.inl (fun _ => 0)))), (u.2.2.2.2, .inl (cL, 48, .inr (.inl (fun _ => 0))))]) 5 534 := by
  refine ct_of (Qf := fun A => va_Qv (fun _ => True) (ct_B (S := Nat × Nat × Nat × Nat × Nat) (dC, dI) cl9 (fun _ : Nat × Nat × Nat × Nat × Nat => [(cL, .long), (cI, .int)]) A (fun u : Nat × Nat × Nat × Nat × Nat => [(mx, .inr (4, [.int 0, .long sd, .int 0, .ref u.1, .ref u.2.1, .ref u.2.2.1, .int 11, .ref u.2.2.2.1, .ref u.2.2.2.2])), (u.1, .inl (cI, 6, .inl (fun _ => 0))), (u.2.1, .inl (cI, 120, .inl (fun _ => 0))), (u.2.2.1, .inl (cI, 120, .inl (fun _ => 0))), (u.2.2.2.1, .inl (cL, 240, .inr (.inl (fun _ => 0)))), (u.2.2.2.2, .inl (cL, 48, .inr (.inl (fun _ => 0))))])) A) (cc := b_M_init) (maxL := 3) (ret := none) (by decide) rfl (Nat.le_of_ble_eq_true rfl) ?_
  intro p e s m below meth c A ls hF hA hP hK hD hG hS hl
  obtain ⟨hx, hb, hr, hml, hts, hown, hlocks, hnm⟩ := id hF
  have hown : s.vm.findClass R_M = some m.cls := hown
  have ha : ∀ w ∈ al_M, w.before [.ref mx, .long sd].toArray s = true := fun w h => hts w (List.mem_cons_of_mem _ h)
  have hl : lv_has ls 3 [(0, .ref mx), (1, .long sd)] := hl
  have hin : meth.name = "<init>" := hnm
  refine lv_aload_n hx hb d_M_init_0 rfl (lv_at hl 0 rfl) ?_
  refine W.objInit hx hb hown (ha _ wm_M_4) (ha _ wm_M_198) (ha _ wm_M_199) rfl (by rw [hml]; exact hl.1) rfl d_M_init_1 (Nat.le_of_ble_eq_true rfl) (Nat.le_of_ble_eq_true rfl) ?_
  refine W.eq (g2 := F0 m 4 ls []) rfl ?_
  refine lv_aload_n hx hb d_M_init_4 rfl (lv_at hl 0 rfl) ?_
  refine lv_bipush (v := 6) hx hb d_M_init_5 (by decide) ?_
  refine va_newa (atype := .int) hx hb (ha _ wm_M_200) (ty := .int) rfl hK hP hD hS hA (N' := 6) (a0 := (6, .inl (fun _ => 0))) (fun _ => rfl) (by decide) (by decide) (by decide) (Nat.le_of_ble_eq_true rfl) (Nat.le_of_ble_eq_true rfl) d_M_init_7 (fun q1 c9 H hK9 hP hD hS => ?_)
  obtain rfl := ct_sameI hK9 1 2 rfl rfl
  have hP : va_P (dC, dI) cl9 [(mx, .inr (4, [.int 0, .long 0, .int 0, .null, .null, .null, .int 0, .null, .null])), (q1, .inl (cI, 6, .inl (fun _ => 0)))] H := hP
  have hD : va_D A [(mx, .inr (4, [.int 0, .long 0, .int 0, .null, .null, .null, .int 0, .null, .null])), (q1, .inl (cI, 6, .inl (fun _ => 0)))] := hD
  refine va_putF (D := (dC, dI)) (ci := 4) (v := .ref q1) (ty := (.array .int)) (C := R_M) (T := F_M) (N := 9) hx hb ha ui_M ft_M tk_M nm_M hown hK hP hD hS 0 rfl rfl 3 (by decide) (ha _ wm_M_8) (fun _ h9 => h9) rfl hin rfl (by decide +kernel) rfl rfl (Nat.le_of_ble_eq_true rfl) d_M_init_9 (fun H locs hP hD hS => ?_)
  have hP : va_P (dC, dI) cl9 [(mx, .inr (4, [.int 0, .long 0, .int 0, .ref q1, .null, .null, .int 0, .null, .null])), (q1, .inl (cI, 6, .inl (fun _ => 0)))] H := hP
  have hD : va_D A [(mx, .inr (4, [.int 0, .long 0, .int 0, .ref q1, .null, .null, .int 0, .null, .null])), (q1, .inl (cI, 6, .inl (fun _ => 0)))] := hD
  refine lv_aload_n hx hb d_M_init_12 rfl (lv_at hl 0 rfl) ?_
  refine lv_bipush (v := 120) hx hb d_M_init_13 (by decide) ?_
  refine va_newa (atype := .int) hx hb (ha _ wm_M_200) (ty := .int) rfl hK hP hD hS hA (N' := 120) (a0 := (120, .inl (fun _ => 0))) (fun _ => rfl) (by decide) (by decide) (by decide) (Nat.le_of_ble_eq_true rfl) (Nat.le_of_ble_eq_true rfl) d_M_init_15 (fun q2 c9 H hK9 hP hD hS => ?_)
  obtain rfl := ct_sameI hK9 1 2 rfl rfl
  have hP : va_P (dC, dI) cl9 [(mx, .inr (4, [.int 0, .long 0, .int 0, .ref q1, .null, .null, .int 0, .null, .null])), (q1, .inl (cI, 6, .inl (fun _ => 0))), (q2, .inl (cI, 120, .inl (fun _ => 0)))] H := hP
  have hD : va_D A [(mx, .inr (4, [.int 0, .long 0, .int 0, .ref q1, .null, .null, .int 0, .null, .null])), (q1, .inl (cI, 6, .inl (fun _ => 0))), (q2, .inl (cI, 120, .inl (fun _ => 0)))] := hD
  refine va_putF (D := (dC, dI)) (ci := 4) (v := .ref q2) (ty := (.array .int)) (C := R_M) (T := F_M) (N := 9) hx hb ha ui_M ft_M tk_M nm_M hown hK hP hD hS 0 rfl rfl 4 (by decide) (ha _ wm_M_9) (fun _ h9 => h9) rfl hin rfl (by decide +kernel) rfl rfl (Nat.le_of_ble_eq_true rfl) d_M_init_17 (fun H locs hP hD hS => ?_)
  have hP : va_P (dC, dI) cl9 [(mx, .inr (4, [.int 0, .long 0, .int 0, .ref q1, .ref q2, .null, .int 0, .null, .null])), (q1, .inl (cI, 6, .inl (fun _ => 0))), (q2, .inl (cI, 120, .inl (fun _ => 0)))] H := hP
  have hD : va_D A [(mx, .inr (4, [.int 0, .long 0, .int 0, .ref q1, .ref q2, .null, .int 0, .null, .null])), (q1, .inl (cI, 6, .inl (fun _ => 0))), (q2, .inl (cI, 120, .inl (fun _ => 0)))] := hD
  refine lv_aload_n hx hb d_M_init_20 rfl (lv_at hl 0 rfl) ?_
  refine lv_bipush (v := 120) hx hb d_M_init_21 (by decide) ?_
  refine va_newa (atype := .int) hx hb (ha _ wm_M_200) (ty := .int) rfl hK hP hD hS hA (N' := 120) (a0 := (120, .inl (fun _ => 0))) (fun _ => rfl) (by decide) (by decide) (by decide) (Nat.le_of_ble_eq_true rfl) (Nat.le_of_ble_eq_true rfl) d_M_init_23 (fun q3 c9 H hK9 hP hD hS => ?_)
  obtain rfl := ct_sameI hK9 1 2 rfl rfl
  have hP : va_P (dC, dI) cl9 [(mx, .inr (4, [.int 0, .long 0, .int 0, .ref q1, .ref q2, .null, .int 0, .null, .null])), (q1, .inl (cI, 6, .inl (fun _ => 0))), (q2, .inl (cI, 120, .inl (fun _ => 0))), (q3, .inl (cI, 120, .inl (fun _ => 0)))] H := hP
  have hD : va_D A [(mx, .inr (4, [.int 0, .long 0, .int 0, .ref q1, .ref q2, .null, .int 0, .null, .null])), (q1, .inl (cI, 6, .inl (fun _ => 0))), (q2, .inl (cI, 120, .inl (fun _ => 0))), (q3, .inl (cI, 120, .inl (fun _ => 0)))] := hD
  refine va_putF (D := (dC, dI)) (ci := 4) (v := .ref q3) (ty := (.array .int)) (C := R_M) (T := F_M) (N := 9) hx hb ha ui_M ft_M tk_M nm_M hown hK hP hD hS 0 rfl rfl 5 (by decide) (ha _ wm_M_10) (fun _ h9 => h9) rfl hin rfl (by decide +kernel) rfl rfl (Nat.le_of_ble_eq_true rfl) d_M_init_25 (fun H locs hP hD hS => ?_)
  have hP : va_P (dC, dI) cl9 [(mx, .inr (4, [.int 0, .long 0, .int 0, .ref q1, .ref q2, .ref q3, .int 0, .null, .null])), (q1, .inl (cI, 6, .inl (fun _ => 0))), (q2, .inl (cI, 120, .inl (fun _ => 0))), (q3, .inl (cI, 120, .inl (fun _ => 0)))] H := hP
  have hD : va_D A [(mx, .inr (4, [.int 0, .long 0, .int 0, .ref q1, .ref q2, .ref q3, .int 0, .null, .null])), (q1, .inl (cI, 6, .inl (fun _ => 0))), (q2, .inl (cI, 120, .inl (fun _ => 0))), (q3, .inl (cI, 120, .inl (fun _ => 0)))] := hD
  refine lv_aload_n hx hb d_M_init_28 rfl (lv_at hl 0 rfl) ?_
  refine lv_bipush (v := 11) hx hb d_M_init_29 (by decide) ?_
  refine va_put (D := (dC, dI)) (ci := 4) (v := .int 11) (ty := .int) (C := R_M) (T := F_M) (N := 9) hx hb ha ui_M ft_M tk_M nm_M hown hK hP hD hS 0 rfl rfl 6 (by decide) (ha _ wm_M_11) (fun _ h9 => h9) rfl (by decide +kernel) rfl rfl (Nat.le_of_ble_eq_true rfl) d_M_init_31 (fun H locs hP hD hS => ?_)
  have hP : va_P (dC, dI) cl9 [(mx, .inr (4, [.int 0, .long 0, .int 0, .ref q1, .ref q2, .ref q3, .int 11, .null, .null])), (q1, .inl (cI, 6, .inl (fun _ => 0))), (q2, .inl (cI, 120, .inl (fun _ => 0))), (q3, .inl (cI, 120, .inl (fun _ => 0)))] H := hP
  have hD : va_D A [(mx, .inr (4, [.int 0, .long 0, .int 0, .ref q1, .ref q2, .ref q3, .int 11, .null, .null])), (q1, .inl (cI, 6, .inl (fun _ => 0))), (q2, .inl (cI, 120, .inl (fun _ => 0))), (q3, .inl (cI, 120, .inl (fun _ => 0)))] := hD
  refine lv_aload_n hx hb d_M_init_34 rfl (lv_at hl 0 rfl) ?_
  refine lv_sipush (v := 240) hx hb d_M_init_35 (by decide) ?_
  refine va_newa (atype := .long) hx hb (ha _ wm_M_201) (ty := .long) rfl hK hP hD hS hA (N' := 240) (a0 := (240, .inr (.inl (fun _ => 0)))) (fun _ => rfl) (by decide) (by decide) (by decide) (Nat.le_of_ble_eq_true rfl) (Nat.le_of_ble_eq_true rfl) d_M_init_38 (fun q4 c9 H hK9 hP hD hS => ?_)
  obtain rfl := ct_sameL hK9 0 2 rfl rfl
  have hP : va_P (dC, dI) cl9 [(mx, .inr (4, [.int 0, .long 0, .int 0, .ref q1, .ref q2, .ref q3, .int 11, .null, .null])), (q1, .inl (cI, 6, .inl (fun _ => 0))), (q2, .inl (cI, 120, .inl (fun _ => 0))), (q3, .inl (cI, 120, .inl (fun _ => 0))), (q4, .inl (cL, 240, .inr (.inl (fun _ => 0))))] H := hP
  have hD : va_D A [(mx, .inr (4, [.int 0, .long 0, .int 0, .ref q1, .ref q2, .ref q3, .int 11, .null, .null])), (q1, .inl (cI, 6, .inl (fun _ => 0))), (q2, .inl (cI, 120, .inl (fun _ => 0))), (q3, .inl (cI, 120, .inl (fun _ => 0))), (q4, .inl (cL, 240, .inr (.inl (fun _ => 0))))] := hD
  refine va_putF (D := (dC, dI)) (ci := 4) (v := .ref q4) (ty := (.array .long)) (C := R_M) (T := F_M) (N := 9) hx hb ha ui_M ft_M tk_M nm_M hown hK hP hD hS 0 rfl rfl 7 (by decide) (ha _ wm_M_12) (fun _ h9 => h9) rfl hin rfl (by decide +kernel) rfl rfl (Nat.le_of_ble_eq_true rfl) d_M_init_40 (fun H locs hP hD hS => ?_)
  have hP : va_P (dC, dI) cl9 [(mx, .inr (4, [.int 0, .long 0, .int 0, .ref q1, .ref q2, .ref q3, .int 11, .ref q4, .null])), (q1, .inl (cI, 6, .inl (fun _ => 0))), (q2, .inl (cI, 120, .inl (fun _ => 0))), (q3, .inl (cI, 120, .inl (fun _ => 0))), (q4, .inl (cL, 240, .inr (.inl (fun _ => 0))))] H := hP
  have hD : va_D A [(mx, .inr (4, [.int 0, .long 0, .int 0, .ref q1, .ref q2, .ref q3, .int 11, .ref q4, .null])), (q1, .inl (cI, 6, .inl (fun _ => 0))), (q2, .inl (cI, 120, .inl (fun _ => 0))), (q3, .inl (cI, 120, .inl (fun _ => 0))), (q4, .inl (cL, 240, .inr (.inl (fun _ => 0))))] := hD
  refine lv_aload_n hx hb d_M_init_43 rfl (lv_at hl 0 rfl) ?_
  refine lv_bipush (v := 48) hx hb d_M_init_44 (by decide) ?_
  refine va_newa (atype := .long) hx hb (ha _ wm_M_201) (ty := .long) rfl hK hP hD hS hA (N' := 48) (a0 := (48, .inr (.inl (fun _ => 0)))) (fun _ => rfl) (by decide) (by decide) (by decide) (Nat.le_of_ble_eq_true rfl) (Nat.le_of_ble_eq_true rfl) d_M_init_46 (fun q5 c9 H hK9 hP hD hS => ?_)
  obtain rfl := ct_sameL hK9 0 2 rfl rfl
  have hP : va_P (dC, dI) cl9 [(mx, .inr (4, [.int 0, .long 0, .int 0, .ref q1, .ref q2, .ref q3, .int 11, .ref q4, .null])), (q1, .inl (cI, 6, .inl (fun _ => 0))), (q2, .inl (cI, 120, .inl (fun _ => 0))), (q3, .inl (cI, 120, .inl (fun _ => 0))), (q4, .inl (cL, 240, .inr (.inl (fun _ => 0)))), (q5, .inl (cL, 48, .inr (.inl (fun _ => 0))))] H := hP
  have hD : va_D A [(mx, .inr (4, [.int 0, .long 0, .int 0, .ref q1, .ref q2, .ref q3, .int 11, .ref q4, .null])), (q1, .inl (cI, 6, .inl (fun _ => 0))), (q2, .inl (cI, 120, .inl (fun _ => 0))), (q3, .inl (cI, 120, .inl (fun _ => 0))), (q4, .inl (cL, 240, .inr (.inl (fun _ => 0)))), (q5, .inl (cL, 48, .inr (.inl (fun _ => 0))))] := hD
  refine va_putF (D := (dC, dI)) (ci := 4) (v := .ref q5) (ty := (.array .long)) (C := R_M) (T := F_M) (N := 9) hx hb ha ui_M ft_M tk_M nm_M hown hK hP hD hS 0 rfl rfl 8 (by decide) (ha _ wm_M_13) (fun _ h9 => h9) rfl hin rfl (by decide +kernel) rfl rfl (Nat.le_of_ble_eq_true rfl) d_M_init_48 (fun H locs hP hD hS => ?_)
  have hP : va_P (dC, dI) cl9 [(mx, .inr (4, [.int 0, .long 0, .int 0, .ref q1, .ref q2, .ref q3, .int 11, .ref q4, .ref q5])), (q1, .inl (cI, 6, .inl (fun _ => 0))), (q2, .inl (cI, 120, .inl (fun _ => 0))), (q3, .inl (cI, 120, .inl (fun _ => 0))), (q4, .inl (cL, 240, .inr (.inl (fun _ => 0)))), (q5, .inl (cL, 48, .inr (.inl (fun _ => 0))))] H := hP
  have hD : va_D A [(mx, .inr (4, [.int 0, .long 0, .int 0, .ref q1, .ref q2, .ref q3, .int 11, .ref q4, .ref q5])), (q1, .inl (cI, 6, .inl (fun _ => 0))), (q2, .inl (cI, 120, .inl (fun _ => 0))), (q3, .inl (cI, 120, .inl (fun _ => 0))), (q4, .inl (cL, 240, .inr (.inl (fun _ => 0)))), (q5, .inl (cL, 48, .inr (.inl (fun _ => 0))))] := hD
  refine lv_aload_n hx hb d_M_init_51 rfl (lv_at hl 0 rfl) ?_
  refine lv_lload_n hx hb d_M_init_52 rfl (lv_at hl 1 rfl) ?_
  refine va_putF (D := (dC, dI)) (ci := 4) (v := .long sd) (ty := .long) (C := R_M) (T := F_M) (N := 9) hx hb ha ui_M ft_M tk_M nm_M hown hK hP hD hS 0 rfl rfl 1 (by decide) (ha _ wm_M_6) (fun _ h9 => h9) rfl hin rfl (by decide +kernel) rfl rfl (Nat.le_of_ble_eq_true rfl) d_M_init_53 (fun H locs hP hD hS => ?_)
  have hP : va_P (dC, dI) cl9 [(mx, .inr (4, [.int 0, .long sd, .int 0, .ref q1, .ref q2, .ref q3, .int 11, .ref q4, .ref q5])), (q1, .inl (cI, 6, .inl (fun _ => 0))), (q2, .inl (cI, 120, .inl (fun _ => 0))), (q3, .inl (cI, 120, .inl (fun _ => 0))), (q4, .inl (cL, 240, .inr (.inl (fun _ => 0)))), (q5, .inl (cL, 48, .inr (.inl (fun _ => 0))))] H := hP
  have hD : va_D A [(mx, .inr (4, [.int 0, .long sd, .int 0, .ref q1, .ref q2, .ref q3, .int 11, .ref q4, .ref q5])), (q1, .inl (cI, 6, .inl (fun _ => 0))), (q2, .inl (cI, 120, .inl (fun _ => 0))), (q3, .inl (cI, 120, .inl (fun _ => 0))), (q4, .inl (cL, 240, .inr (.inl (fun _ => 0)))), (q5, .inl (cL, 48, .inr (.inl (fun _ => 0))))] := hD
  exact ct_vret hF d_M_init_56 (q1, q2, q3, q4, q5) trivial (hP.sub [0, 1, 2, 3, 4, 5] rfl) (hD.sub [0, 1, 2, 3, 4, 5] (by decide) rfl) hK hS
