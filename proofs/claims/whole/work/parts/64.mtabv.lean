set_option maxHeartbeats 4000000 in
set_option maxRecDepth 100000 in
/-- the search -/
theorem lp_M_valueAt {p : Program} {l : Launch} {e : Env} {R : Room} {s : State} {m : MethodId} {args : Array Value} {below : List Frame} {meth : Method} {c : Code} {Q : State → Prop} {A : Nat → Prop} {cells slots : Nat} {dC : Nat → ClassId} {dI : Nat → Nat → Nat} {mx : Nat} {th : Int32} {sd : Int64} {n : Nat} {ro : Nat} {pl : Nat} {vl : Nat} {f : Nat} {pa : Nat} {pr : Nat} {cI : ClassId} {cc : Nat → Nat} {P9 : Nat → Int32} {V9 : Nat → Int32} {j : Nat} {p7 : Int32} {k : Nat} (hF : ct_F p s m meth c b_M_valueAt ((some .long)) 10 w_M_valueAt y_M_valueAt args) (hA : ∀ q, s.heap.size ≤ q → A q) (hK : va_K (dC, dI) cl9 [(cI, .int)] s) (hj : j < 6) (hcj : cc j ≤ 20) (hkc : k ≤ cc j) (hk : ∀ i, i < k → i < cc j ∧ P9 (20 * j + i) < p7) (hz : k < cc j → ¬ P9 (20 * j + k) < p7)
    (K : ∀ (H : Heap) (locs : List Loc) (ls : Array Slot), va_P (dC, dI) cl9 [(mx, .inr (4, [.int th, .long sd, .int (nI n), .ref ro, .ref pl, .ref vl, .int (nI f), .ref pa, .ref pr])), (ro, .inl (cI, 6, .inl (rw_R cc))), (pl, .inl (cI, 120, .inl P9)), (vl, .inl (cI, 120, .inl V9))] H → va_D A [(mx, .inr (4, [.int th, .long sd, .int (nI n), .ref ro, .ref pl, .ref vl, .int (nI f), .ref pa, .ref pr])), (ro, .inl (cI, 6, .inl (rw_R cc))), (pl, .inl (cI, 120, .inl P9)), (vl, .inl (cI, 120, .inl V9))] → va_S A s.heap H locs → lv_has ls 10 [(0, .ref mx), (2, .int p7), (3, .int (nI (20 * j))), (4, .int (nI (20 * j + cc j))), (5, .int (nI (20 * j + k)))] → W p l e R s m args below meth c H locs cells slots Q (F0 m 52 ls [])) :
    ∀ (n9 i : Nat), i + n9 = k → ∀ (H : Heap) (locs : List Loc) (ls : Array Slot), va_P (dC, dI) cl9 [(mx, .inr (4, [.int th, .long sd, .int (nI n), .ref ro, .ref pl, .ref vl, .int (nI f), .ref pa, .ref pr])), (ro, .inl (cI, 6, .inl (rw_R cc))), (pl, .inl (cI, 120, .inl P9)), (vl, .inl (cI, 120, .inl V9))] H → va_D A [(mx, .inr (4, [.int th, .long sd, .int (nI n), .ref ro, .ref pl, .ref vl, .int (nI f), .ref pa, .ref pr])), (ro, .inl (cI, 6, .inl (rw_R cc))), (pl, .inl (cI, 120, .inl P9)), (vl, .inl (cI, 120, .inl V9))] → va_S A s.heap H locs → lv_has ls 10 [(0, .ref mx), (2, .int p7), (3, .int (nI (20 * j))), (4, .int (nI (20 * j + cc j))), (5, .int (nI (20 * j + i)))] → W p l e R s m args below meth c H locs cells slots Q (F0 m 28 ls []) := by
  obtain ⟨hx, hb, hr, hml, hts, hown, hlocks, hnm⟩ := id hF
  have hown : s.vm.findClass R_M = some m.cls := hown
  have ha : ∀ w ∈ al_M, w.before args s = true := fun w h => hts w (List.mem_cons_of_mem _ h)
  intro n9
  induction n9 with
  | zero =>
    intro i hi H locs ls hP hD hS hl
    obtain rfl : k = i := by omega
    refine lv_iload hx hb d_M_valueAt_28 (lv_at hl 4 rfl) ?_
    refine lv_iload hx hb d_M_valueAt_30 (lv_at hl 3 rfl) ?_
    refine lv_icmp_ge (tgt := 52) hx hb d_M_valueAt_32 (by decide) (fun hc => ?_) (fun hc => ?_)
    · exact K _ _ _ hP hD hS (lv_sub hl [0, 1, 2, 3, 4] rfl)
    · have hlt : k < cc j := Decidable.byContradiction (fun q => hc (nI_le (by omega) (by omega)))
      refine lv_aload_n hx hb d_M_valueAt_35 rfl (lv_at hl 0 rfl) ?_
      refine va_get (D := (dC, dI)) (ci := 4) (v := .ref pl) (C := R_M) (T := F_M) (N := 9) hx hb ha ui_M hown hK hP 0 rfl rfl 4 (by decide) (ha _ wm_M_9) (fun _ h9 => h9) rfl d_M_valueAt_36 ?_
      refine lv_iload hx hb d_M_valueAt_39 (lv_at hl 4 rfl) ?_
      refine ct_iald hx hb hK hP 2 0 rfl rfl (20 * j + k) rfl (by omega) (by omega) d_M_valueAt_41 ?_
      refine lv_iload_n hx hb d_M_valueAt_42 rfl (lv_at hl 1 rfl) ?_
      refine lv_icmp_ge (tgt := 52) hx hb d_M_valueAt_43 (by decide) (fun hd => ?_) (fun hd => ?_)
      · exact K _ _ _ hP hD hS (lv_sub hl [0, 1, 2, 3, 4] rfl)
      · exact absurd (Int32.not_le.mp hd) (hz hlt)
  | succ n9 ih =>
    intro i hi H locs ls hP hD hS hl
    have hlt : i < k := by omega
    obtain ⟨k1, k2⟩ := hk i (by omega)
    refine lv_iload hx hb d_M_valueAt_28 (lv_at hl 4 rfl) ?_
    refine lv_iload hx hb d_M_valueAt_30 (lv_at hl 3 rfl) ?_
    refine lv_icmp_ge (tgt := 52) hx hb d_M_valueAt_32 (by decide) (fun hc => ?_) (fun hc => ?_)
    · exact absurd hc (nI_ge (by omega) (by omega))
    · refine lv_aload_n hx hb d_M_valueAt_35 rfl (lv_at hl 0 rfl) ?_
      refine va_get (D := (dC, dI)) (ci := 4) (v := .ref pl) (C := R_M) (T := F_M) (N := 9) hx hb ha ui_M hown hK hP 0 rfl rfl 4 (by decide) (ha _ wm_M_9) (fun _ h9 => h9) rfl d_M_valueAt_36 ?_
      refine lv_iload hx hb d_M_valueAt_39 (lv_at hl 4 rfl) ?_
      refine ct_iald hx hb hK hP 2 0 rfl rfl (20 * j + i) rfl (by omega) (by omega) d_M_valueAt_41 ?_
      refine lv_iload_n hx hb d_M_valueAt_42 rfl (lv_at hl 1 rfl) ?_
      refine lv_icmp_ge (tgt := 52) hx hb d_M_valueAt_43 (by decide) (fun hd => ?_) (fun hd => ?_)
      · exact absurd hd (Int32.not_le.mpr k2)
      · refine lv_iinc (v := (nI (20 * j + i + 1))) (lv' := [(5, .int (nI (20 * j + i + 1))), (0, .ref mx), (2, .int p7), (3, .int (nI (20 * j))), (4, .int (nI (20 * j + cc j)))]) hx hb d_M_valueAt_46 hl (k := 4) rfl (by exact nI_1 (20 * j + i)) (by decide) rfl (fun ls hl => ?_)
        refine lv_goto (tgt := 28) hx hb d_M_valueAt_49 (by decide) ?_
        exact ih (i + 1) (by omega) _ _ _ hP hD hS (lv_sub hl [1, 2, 3, 4, 0] rfl)
set_option maxHeartbeats 4000000 in
set_option maxRecDepth 100000 in
/-- valueAt -/
theorem c_M_valueAt (l : Launch) (dC : Nat → ClassId) (dI : Nat → Nat → Nat) (mx : Nat) (th : Int32) (sd : Int64) (n : Nat) (ro : Nat) (pl : Nat) (vl : Nat) (f : Nat) (pa : Nat) (pr : Nat) (cI : ClassId) (cc : Nat → Nat) (P9 : Nat → Int32) (V9 : Nat → Int32) (j : Nat) (p7 : Int32) (hj : j < 6) (hcj : cc j ≤ 20) (hasc : ∀ i, i + 1 < cc j → P9 (20 * j + i) < P9 (20 * j + i + 1)) (sz : Nat) : ct_L l y_M_valueAt w_M_valueAt { frames := 1, cells := 0, slots := 0, locals := 40 } (dC, dI) cl9 [(cI, .int)] ct_G0 [.ref mx, .int (nI j), .int p7] [(mx, .inr (4, [.int th, .long sd, .int (nI n), .ref ro, .ref pl, .ref vl, .int (nI f), .ref pa, .ref pr])), (ro, .inl (cI, 6, .inl (rw_R cc))), (pl, .inl (cI, 120, .inl P9)), (vl, .inl (cI, 120, .inl V9))] sz (S := Unit) (fun r _ => r = rv_v (cc j) (fun i => P9 (20 * j + i)) (fun i => V9 (20 * j + i)) p7) (fun _ : Unit => [(cI, .int)]) (fun _ => [(mx, .inr (4, [.int th, .long sd, .int (nI n), .ref ro, .ref pl, .ref vl, .int (nI f), .ref pa, .ref pr])), (ro, .inl (cI, 6, .inl (rw_R cc))), (pl, .inl (cI, 120, .inl P9)), (vl, .inl (cI, 120, .inl V9))]) 0 0 := by
  refine ct_of (Qf := fun A => va_Ql (fun r _ => r = rv_v (cc j) (fun i => P9 (20 * j + i)) (fun i => V9 (20 * j + i)) p7) (ct_B (S := Unit) (dC, dI) cl9 (fun _ : Unit => [(cI, .int)]) A (fun _ => [(mx, .inr (4, [.int th, .long sd, .int (nI n), .ref ro, .ref pl, .ref vl, .int (nI f), .ref pa, .ref pr])), (ro, .inl (cI, 6, .inl (rw_R cc))), (pl, .inl (cI, 120, .inl P9)), (vl, .inl (cI, 120, .inl V9))])) A) (cc := b_M_valueAt) (maxL := 10) (ret := ((some .long))) (by decide) rfl (Nat.le_of_ble_eq_true rfl) ?_
  intro p e s m below meth c A ls hF hA hP hK hD hG hS hl
  obtain ⟨hx, hb, hr, hml, hts, hown, hlocks, hnm⟩ := id hF
  have hown : s.vm.findClass R_M = some m.cls := hown
  have ha : ∀ w ∈ al_M, w.before [.ref mx, .int (nI j), .int p7].toArray s = true := fun w h => hts w (List.mem_cons_of_mem _ h)
  have hl : lv_has ls 10 [(0, .ref mx), (1, .int (nI j)), (2, .int p7)] := hl
  refine lv_bipush (v := 20) hx hb d_M_valueAt_0 (by decide) ?_
  refine lv_iload_n hx hb d_M_valueAt_2 rfl (lv_at hl 1 rfl) ?_
  refine lv_imul hx hb d_M_valueAt_3 ?_
  refine lv_topi (fun x_1 ex_1 => ?_)
  obtain rfl : x_1 = nI (20 * j) := ex_1.trans (rw_i0 j)
  refine lv_istore_n (lv' := [(3, .int (nI (20 * j))), (0, .ref mx), (1, .int (nI j)), (2, .int p7)]) hx hb d_M_valueAt_4 rfl hl (by decide) rfl (fun ls hl => ?_)
  refine lv_iload_n hx hb d_M_valueAt_5 rfl (lv_at hl 0 rfl) ?_
  refine lv_aload_n hx hb d_M_valueAt_6 rfl (lv_at hl 1 rfl) ?_
  refine va_get (D := (dC, dI)) (ci := 4) (v := .ref ro) (C := R_M) (T := F_M) (N := 9) hx hb ha ui_M hown hK hP 0 rfl rfl 3 (by decide) (ha _ wm_M_8) (fun _ h9 => h9) rfl d_M_valueAt_7 ?_
  refine lv_iload_n hx hb d_M_valueAt_10 rfl (lv_at hl 2 rfl) ?_
  refine ct_iald hx hb hK hP 1 0 rfl rfl j rfl (by omega) (by omega) d_M_valueAt_11 ?_
  refine lv_topi (fun x_2 ex_2 => ?_)
  obtain rfl : x_2 = nI (cc j) := ex_2
  refine lv_iadd hx hb d_M_valueAt_12 ?_
  refine lv_topi (fun x_3 ex_3 => ?_)
  obtain rfl : x_3 = nI (20 * j + cc j) := ex_3.trans (nI_add (20 * j) (cc j))
  refine lv_istore (lv' := [(4, .int (nI (20 * j + cc j))), (3, .int (nI (20 * j))), (0, .ref mx), (1, .int (nI j)), (2, .int p7)]) hx hb d_M_valueAt_13 hl (by decide) rfl (fun ls hl => ?_)
  refine lv_iload_n hx hb d_M_valueAt_15 rfl (lv_at hl 1 rfl) ?_
  refine lv_iload hx hb d_M_valueAt_16 (lv_at hl 0 rfl) ?_
  refine lv_icmp_ne (tgt := 25) hx hb d_M_valueAt_18 (by decide) (fun h1 => ?_) (fun h1 => ?_)
  · have h0 : ¬ cc j = 0 := fun q => h1 (by rw [q]; rfl)
    obtain ⟨k, ek⟩ : ∃ k, k = rv_k (cc j) (fun i => P9 (20 * j + i)) p7 := ⟨_, rfl⟩
    obtain ⟨q1, q2, q3⟩ := rv_kok (cn := cc j) (P := fun i => P9 (20 * j + i)) (pl := p7) hcj
    rw [← ek] at q1 q2 q3
    refine lv_iload_n hx hb d_M_valueAt_25 rfl (lv_at hl 1 rfl) ?_
    refine lv_istore (lv' := [(5, .int (nI (20 * j))), (4, .int (nI (20 * j + cc j))), (3, .int (nI (20 * j))), (0, .ref mx), (1, .int (nI j)), (2, .int p7)]) hx hb d_M_valueAt_26 hl (by decide) rfl (fun ls hl => ?_)
    refine lp_M_valueAt (mx := mx) (th := th) (sd := sd) (n := n) (ro := ro) (pl := pl) (vl := vl) (f := f) (pa := pa) (pr := pr) (cI := cI) (cc := cc) (P9 := P9) (V9 := V9) (j := j) (p7 := p7) (k := k) hF hA hK hj hcj q1 q2 q3 (fun H locs ls hP hD hS hl => ?_) k 0 (by omega) _ _ _ hP hD hS (lv_sub hl [3, 5, 2, 1, 0] rfl)
    refine lv_iload hx hb d_M_valueAt_52 (lv_at hl 4 rfl) ?_
    refine lv_iload hx hb d_M_valueAt_54 (lv_at hl 3 rfl) ?_
    refine lv_icmp_eq (tgt := 65) hx hb d_M_valueAt_56 (by decide) (fun h2 => ?_) (fun h2 => ?_)
    · have hkc : k = cc j := by have := nI_inj (by omega) (by omega) h2; omega
      refine lv_aload_n hx hb d_M_valueAt_65 rfl (lv_at hl 0 rfl) ?_
      refine va_get (D := (dC, dI)) (ci := 4) (v := .ref vl) (C := R_M) (T := F_M) (N := 9) hx hb ha ui_M hown hK hP 0 rfl rfl 5 (by decide) (ha _ wm_M_10) (fun _ h9 => h9) rfl d_M_valueAt_66 ?_
      refine lv_iload hx hb d_M_valueAt_69 (lv_at hl 4 rfl) ?_
      refine lv_iload hx hb d_M_valueAt_71 (lv_at hl 3 rfl) ?_
      refine lv_icmp_ne (tgt := 83) hx hb d_M_valueAt_73 (by decide) (fun h3 => ?_) (fun h3 => ?_)
      · exact absurd h2 h3
      · refine lv_iload hx hb d_M_valueAt_76 (lv_at hl 3 rfl) ?_
        refine lv_iconst (v := 1) hx hb d_M_valueAt_78 (by decide) ?_
        refine lv_isub hx hb d_M_valueAt_79 ?_
        refine lv_goto (tgt := 84) hx hb d_M_valueAt_80 (by decide) ?_
        refine ct_iald hx hb hK hP 3 0 rfl rfl (20 * j + cc j - 1) (pk_sub (a := 20 * j + cc j) (b := 1) (by omega)) (by omega) (by omega) d_M_valueAt_84 ?_
        refine lv_i2l hx hb d_M_valueAt_85 rfl ?_
        rw [show 20 * j + cc j - 1 = 20 * j + (cc j - 1) by omega]
        exact ct_lret hF d_M_valueAt_86 () ((if_neg h0).trans (if_pos (by rw [← ek]; exact hkc))).symm (hP.sub [0, 1, 2, 3] rfl) (hD.sub [0, 1, 2, 3] (by decide) rfl) hK hS
    · have hkc : ¬ k = cc j := fun q => h2 (by rw [q])
      refine lv_iload hx hb d_M_valueAt_59 (lv_at hl 4 rfl) ?_
      refine lv_iload_n hx hb d_M_valueAt_61 rfl (lv_at hl 2 rfl) ?_
      refine lv_icmp_ne (tgt := 87) hx hb d_M_valueAt_62 (by decide) (fun h4 => ?_) (fun h4 => ?_)
      · have hk0 : ¬ k = 0 := fun q => h4 (by rw [q]; rfl)
        have hlt : P9 (20 * j + (k - 1)) < P9 (20 * j + k) := by have := hasc (k - 1) (by omega); rwa [show 20 * j + (k - 1) + 1 = 20 * j + k by omega] at this
        have e8 : 20 * j + k - 1 = 20 * j + (k - 1) := by omega
        refine lv_aload_n hx hb d_M_valueAt_87 rfl (lv_at hl 0 rfl) ?_
        refine va_get (D := (dC, dI)) (ci := 4) (v := .ref pl) (C := R_M) (T := F_M) (N := 9) hx hb ha ui_M hown hK hP 0 rfl rfl 4 (by decide) (ha _ wm_M_9) (fun _ h9 => h9) rfl d_M_valueAt_88 ?_
        refine lv_iload hx hb d_M_valueAt_91 (lv_at hl 4 rfl) ?_
        refine lv_iconst (v := 1) hx hb d_M_valueAt_93 (by decide) ?_
        refine lv_isub hx hb d_M_valueAt_94 ?_
        refine ct_iald hx hb hK hP 2 0 rfl rfl (20 * j + k - 1) (pk_sub (a := 20 * j + k) (b := 1) (by omega)) (by omega) (by omega) d_M_valueAt_95 ?_
        refine lv_i2l hx hb d_M_valueAt_96 rfl ?_
        refine lv_lstore (lv' := [(6, .long (((P9 (20 * j + k - 1)) : Int32).toInt64)), (0, .ref mx), (2, .int p7), (3, .int (nI (20 * j))), (4, .int (nI (20 * j + cc j))), (5, .int (nI (20 * j + k)))]) hx hb d_M_valueAt_97 hl (by decide) rfl (fun ls hl => ?_)
        refine lv_aload_n hx hb d_M_valueAt_99 rfl (lv_at hl 1 rfl) ?_
        refine va_get (D := (dC, dI)) (ci := 4) (v := .ref vl) (C := R_M) (T := F_M) (N := 9) hx hb ha ui_M hown hK hP 0 rfl rfl 5 (by decide) (ha _ wm_M_10) (fun _ h9 => h9) rfl d_M_valueAt_100 ?_
        refine lv_iload hx hb d_M_valueAt_103 (lv_at hl 5 rfl) ?_
        refine lv_iconst (v := 1) hx hb d_M_valueAt_105 (by decide) ?_
        refine lv_isub hx hb d_M_valueAt_106 ?_
        refine ct_iald hx hb hK hP 3 0 rfl rfl (20 * j + k - 1) (pk_sub (a := 20 * j + k) (b := 1) (by omega)) (by omega) (by omega) d_M_valueAt_107 ?_
        refine lv_i2l hx hb d_M_valueAt_108 rfl ?_
        refine lv_lstore (lv' := [(8, .long (((V9 (20 * j + k - 1)) : Int32).toInt64)), (6, .long (((P9 (20 * j + k - 1)) : Int32).toInt64)), (0, .ref mx), (2, .int p7), (3, .int (nI (20 * j))), (4, .int (nI (20 * j + cc j))), (5, .int (nI (20 * j + k)))]) hx hb d_M_valueAt_109 hl (by decide) rfl (fun ls hl => ?_)
        refine lv_lload hx hb d_M_valueAt_111 (lv_at hl 0 rfl) ?_
        refine lv_aload_n hx hb d_M_valueAt_113 rfl (lv_at hl 2 rfl) ?_
        refine va_get (D := (dC, dI)) (ci := 4) (v := .ref vl) (C := R_M) (T := F_M) (N := 9) hx hb ha ui_M hown hK hP 0 rfl rfl 5 (by decide) (ha _ wm_M_10) (fun _ h9 => h9) rfl d_M_valueAt_114 ?_
        refine lv_iload hx hb d_M_valueAt_117 (lv_at hl 6 rfl) ?_
        refine ct_iald hx hb hK hP 3 0 rfl rfl (20 * j + k) rfl (by omega) (by omega) d_M_valueAt_119 ?_
        refine lv_i2l hx hb d_M_valueAt_120 rfl ?_
        refine lv_lload hx hb d_M_valueAt_121 (lv_at hl 0 rfl) ?_
        refine lv_lsub hx hb d_M_valueAt_123 ?_
        refine lv_iload_n hx hb d_M_valueAt_124 rfl (lv_at hl 3 rfl) ?_
        refine lv_i2l hx hb d_M_valueAt_125 rfl ?_
        refine lv_lload hx hb d_M_valueAt_126 (lv_at hl 1 rfl) ?_
        refine lv_lsub hx hb d_M_valueAt_128 ?_
        refine lv_lmul hx hb d_M_valueAt_129 ?_
        refine lv_aload_n hx hb d_M_valueAt_130 rfl (lv_at hl 2 rfl) ?_
        refine va_get (D := (dC, dI)) (ci := 4) (v := .ref pl) (C := R_M) (T := F_M) (N := 9) hx hb ha ui_M hown hK hP 0 rfl rfl 4 (by decide) (ha _ wm_M_9) (fun _ h9 => h9) rfl d_M_valueAt_131 ?_
        refine lv_iload hx hb d_M_valueAt_134 (lv_at hl 6 rfl) ?_
        refine ct_iald hx hb hK hP 2 0 rfl rfl (20 * j + k) rfl (by omega) (by omega) d_M_valueAt_136 ?_
        refine lv_i2l hx hb d_M_valueAt_137 rfl ?_
        refine lv_lload hx hb d_M_valueAt_138 (lv_at hl 1 rfl) ?_
        refine lv_lsub hx hb d_M_valueAt_140 ?_
        refine cs_calll (va_runS (As := [.long (((((V9 (20 * j + k)) : Int32).toInt64) - (((V9 (20 * j + k - 1)) : Int32).toInt64)) * (((p7 : Int32).toInt64) - (((P9 (20 * j + k - 1)) : Int32).toInt64))), .long ((((P9 (20 * j + k)) : Int32).toInt64) - (((P9 (20 * j + k - 1)) : Int32).toInt64))]) (rest := [.long (((V9 (20 * j + k - 1)) : Int32).toInt64)]) ⟨hx, hb, hml, hown, ha⟩ (c_M_down l dC dI (((((V9 (20 * j + k)) : Int32).toInt64) - (((V9 (20 * j + k - 1)) : Int32).toInt64)) * (((p7 : Int32).toInt64) - (((P9 (20 * j + k - 1)) : Int32).toInt64))) ((((P9 (20 * j + k)) : Int32).toInt64) - (((P9 (20 * j + k - 1)) : Int32).toInt64)) (by rw [e8]; exact rv_pos hlt) _) (va_cwS 2 ha g_M_M_down rfl rfl rfl (by decide +kernel) ⟨Nat.le_of_ble_eq_true rfl, Nat.le_of_ble_eq_true rfl⟩) (ct_pre ct_G0ok trivial hK hP hD hS hA [] rfl (by decide) [] rfl) rfl rfl hl.1 rfl (lv_room (Nat.le_of_ble_eq_true rfl)) d_M_valueAt_141 ⟨Nat.le_of_ble_eq_true rfl, Nat.le_of_ble_eq_true rfl⟩) hP hD hS hA [] rfl (by decide) (fun _ => rfl) (fun r9 u7 H locs hr9 hP hD hS => ?_)
        have hP : va_P (dC, dI) cl9 [(mx, .inr (4, [.int th, .long sd, .int (nI n), .ref ro, .ref pl, .ref vl, .int (nI f), .ref pa, .ref pr])), (ro, .inl (cI, 6, .inl (rw_R cc))), (pl, .inl (cI, 120, .inl P9)), (vl, .inl (cI, 120, .inl V9))] H := hP
        have hD : va_D A [(mx, .inr (4, [.int th, .long sd, .int (nI n), .ref ro, .ref pl, .ref vl, .int (nI f), .ref pa, .ref pr])), (ro, .inl (cI, 6, .inl (rw_R cc))), (pl, .inl (cI, 120, .inl P9)), (vl, .inl (cI, 120, .inl V9))] := hD
        refine lv_ladd hx hb d_M_valueAt_144 ?_
        rw [hr9, e8]
        exact ct_lret hF d_M_valueAt_145 () ((if_neg h0).trans ((if_neg (by rw [← ek]; exact hkc)).trans ((if_neg (by rw [← ek]; exact hk0)).trans (by rw [← ek])))).symm (hP.sub [0, 1, 2, 3] rfl) (hD.sub [0, 1, 2, 3] (by decide) rfl) hK hS
      · have hk0 : k = 0 := by have := nI_inj (by omega) (by omega) h4; omega
        refine lv_aload_n hx hb d_M_valueAt_65 rfl (lv_at hl 0 rfl) ?_
        refine va_get (D := (dC, dI)) (ci := 4) (v := .ref vl) (C := R_M) (T := F_M) (N := 9) hx hb ha ui_M hown hK hP 0 rfl rfl 5 (by decide) (ha _ wm_M_10) (fun _ h9 => h9) rfl d_M_valueAt_66 ?_
        refine lv_iload hx hb d_M_valueAt_69 (lv_at hl 4 rfl) ?_
        refine lv_iload hx hb d_M_valueAt_71 (lv_at hl 3 rfl) ?_
        refine lv_icmp_ne (tgt := 83) hx hb d_M_valueAt_73 (by decide) (fun h5 => ?_) (fun h5 => ?_)
        · refine lv_iload_n hx hb d_M_valueAt_83 rfl (lv_at hl 2 rfl) ?_
          refine ct_iald hx hb hK hP 3 0 rfl rfl (20 * j) rfl (by omega) (by omega) d_M_valueAt_84 ?_
          refine lv_i2l hx hb d_M_valueAt_85 rfl ?_
          exact ct_lret hF d_M_valueAt_86 () ((if_neg h0).trans ((if_neg (by rw [← ek]; exact hkc)).trans (if_pos (by rw [← ek]; exact hk0)))).symm (hP.sub [0, 1, 2, 3] rfl) (hD.sub [0, 1, 2, 3] (by decide) rfl) hK hS
        · exact absurd h5 h2
  · have h0 : cc j = 0 := by have := nI_inj (by omega) (by omega) h1; omega
    refine lv_ldc2 (v := (-9223372036854775808)) hx hb hown (ha _ wm_M_78) d_M_valueAt_21 ?_
    exact ct_lret hF d_M_valueAt_24 () (if_pos h0).symm (hP.sub [0, 1, 2, 3] rfl) (hD.sub [0, 1, 2, 3] (by decide) rfl) hK hS
set_option maxHeartbeats 4000000 in
set_option maxRecDepth 100000 in
/-- at(table, place) -/
theorem c_M_at (l : Launch) (dC : Nat → ClassId) (dI : Nat → Nat → Nat) (mx : Nat) (th : Int32) (sd : Int64) (n : Nat) (ro : Nat) (pl : Nat) (vl : Nat) (f : Nat) (pa : Nat) (pr : Nat) (cI : ClassId) (cc : Nat → Nat) (P9 : Nat → Int32) (V9 : Nat → Int32) (t p7 : Int32) (hn : n ≤ 6) (hcc : ∀ j, j < n → cc j ≤ 20) (hasc : ∀ j, j < n → ∀ i, i + 1 < cc j → P9 (20 * j + i) < P9 (20 * j + i + 1)) (sz : Nat) : ct_L l y_M_at w_M_at { frames := 2, cells := 0, slots := 0, locals := 80 } (dC, dI) cl9 [(cI, .int)] ct_G0 [.ref mx, .int t, .int p7] [(mx, .inr (4, [.int th, .long sd, .int (nI n), .ref ro, .ref pl, .ref vl, .int (nI f), .ref pa, .ref pr])), (ro, .inl (cI, 6, .inl (rw_R cc))), (pl, .inl (cI, 120, .inl P9)), (vl, .inl (cI, 120, .inl V9))] sz (S := Int32) (fun r (u : Int32) => (it_v n t = 0 ∧ r = 0 ∧ u = 1) ∨ (∃ j, j < n ∧ t = nI j ∧ r = rv_v (cc j) (fun i => P9 (20 * j + i)) (fun i => V9 (20 * j + i)) p7 ∧ u = 0)) (fun _ : Int32 => [(cI, .int)]) (fun u : Int32 => [(mx, .inr (4, [.int u, .long sd, .int (nI n), .ref ro, .ref pl, .ref vl, .int (nI f), .ref pa, .ref pr])), (ro, .inl (cI, 6, .inl (rw_R cc))), (pl, .inl (cI, 120, .inl P9)), (vl, .inl (cI, 120, .inl V9))]) 0 0 := by
  refine ct_of (Qf := fun A => va_Ql (fun r (u : Int32) => (it_v n t = 0 ∧ r = 0 ∧ u = 1) ∨ (∃ j, j < n ∧ t = nI j ∧ r = rv_v (cc j) (fun i => P9 (20 * j + i)) (fun i => V9 (20 * j + i)) p7 ∧ u = 0)) (ct_B (S := Int32) (dC, dI) cl9 (fun _ : Int32 => [(cI, .int)]) A (fun u : Int32 => [(mx, .inr (4, [.int u, .long sd, .int (nI n), .ref ro, .ref pl, .ref vl, .int (nI f), .ref pa, .ref pr])), (ro, .inl (cI, 6, .inl (rw_R cc))), (pl, .inl (cI, 120, .inl P9)), (vl, .inl (cI, 120, .inl V9))])) A) (cc := b_M_at) (maxL := 3) (ret := ((some .long))) (by decide) rfl (Nat.le_of_ble_eq_true rfl) ?_
  intro p e s m below meth c A ls hF hA hP hK hD hG hS hl
  obtain ⟨hx, hb, hr, hml, hts, hown, hlocks, hnm⟩ := id hF
  have hown : s.vm.findClass R_M = some m.cls := hown
  have ha : ∀ w ∈ al_M, w.before [.ref mx, .int t, .int p7].toArray s = true := fun w h => hts w (List.mem_cons_of_mem _ h)
  have hl : lv_has ls 3 [(0, .ref mx), (1, .int t), (2, .int p7)] := hl
  refine lv_aload_n hx hb d_M_at_0 rfl (lv_at hl 0 rfl) ?_
  refine lv_aload_n hx hb d_M_at_1 rfl (lv_at hl 0 rfl) ?_
  refine lv_iload_n hx hb d_M_at_2 rfl (lv_at hl 1 rfl) ?_
  refine cs_calli (va_runV (As := [.int t]) (rest := [.ref mx]) ⟨hx, hb, hml, hown, ha⟩ (c_M_isTable l dC dI mx th sd n ro pl vl f pa pr t _) (cwV 1 ha g_M_M_isTable rfl rfl rfl (by decide +kernel) ⟨Nat.le_of_ble_eq_true rfl, Nat.le_of_ble_eq_true rfl⟩) (ct_preV ct_G0ok trivial hK hP hD hS hA [0] rfl (by decide) [] rfl 0 4 rfl rfl rfl) rfl rfl hl.1 rfl (lv_room (Nat.le_of_ble_eq_true rfl)) d_M_at_3 ⟨Nat.le_of_ble_eq_true rfl, Nat.le_of_ble_eq_true rfl⟩) hP hD hS hA [0] rfl (by decide) (fun _ => rfl) (fun r1 u7 H locs hr1 hP hD hS => ?_)
  have hP : va_P (dC, dI) cl9 [(mx, .inr (4, [.int th, .long sd, .int (nI n), .ref ro, .ref pl, .ref vl, .int (nI f), .ref pa, .ref pr])), (ro, .inl (cI, 6, .inl (rw_R cc))), (pl, .inl (cI, 120, .inl P9)), (vl, .inl (cI, 120, .inl V9))] H := hP
  have hD : va_D A [(mx, .inr (4, [.int th, .long sd, .int (nI n), .ref ro, .ref pl, .ref vl, .int (nI f), .ref pa, .ref pr])), (ro, .inl (cI, 6, .inl (rw_R cc))), (pl, .inl (cI, 120, .inl P9)), (vl, .inl (cI, 120, .inl V9))] := hD
  refine lv_if_eq (tgt := 13) hx hb d_M_at_6 (by decide) (fun h1 => ?_) (fun h1 => ?_)
  · refine lv_iconst (v := 1) hx hb d_M_at_13 (by decide) ?_
    refine va_put (D := (dC, dI)) (ci := 4) (v := .int 1) (ty := .int) (C := R_M) (T := F_M) (N := 9) hx hb ha ui_M ft_M tk_M nm_M hown hK hP hD hS 0 rfl rfl 0 (by decide) (ha _ wm_M_5) (fun _ h9 => h9) rfl (by decide +kernel) rfl rfl (Nat.le_of_ble_eq_true rfl) d_M_at_14 (fun H locs hP hD hS => ?_)
    have hP : va_P (dC, dI) cl9 [(mx, .inr (4, [.int 1, .long sd, .int (nI n), .ref ro, .ref pl, .ref vl, .int (nI f), .ref pa, .ref pr])), (ro, .inl (cI, 6, .inl (rw_R cc))), (pl, .inl (cI, 120, .inl P9)), (vl, .inl (cI, 120, .inl V9))] H := hP
    have hD : va_D A [(mx, .inr (4, [.int 1, .long sd, .int (nI n), .ref ro, .ref pl, .ref vl, .int (nI f), .ref pa, .ref pr])), (ro, .inl (cI, 6, .inl (rw_R cc))), (pl, .inl (cI, 120, .inl P9)), (vl, .inl (cI, 120, .inl V9))] := hD
    refine lv_aload_n hx hb d_M_at_17 rfl (lv_at hl 0 rfl) ?_
    refine va_get (D := (dC, dI)) (ci := 4) (v := .int 1) (C := R_M) (T := F_M) (N := 9) hx hb ha ui_M hown hK hP 0 rfl rfl 0 (by decide) (ha _ wm_M_5) (fun _ h9 => h9) rfl d_M_at_18 ?_
    refine lv_if_le (tgt := 28) hx hb d_M_at_21 (by decide) (fun hq => ?_) (fun hq => ?_)
    · exact absurd hq (by decide)
    · refine lv_lconst (v := 0) hx hb d_M_at_24 (by decide) ?_
      refine lv_goto (tgt := 34) hx hb d_M_at_25 (by decide) ?_
      exact ct_lret hF d_M_at_34 1 (Or.inl ⟨hr1.symm.trans h1, rfl, rfl⟩) (hP.sub [0, 1, 2, 3] rfl) (hD.sub [0, 1, 2, 3] (by decide) rfl) hK hS
  · obtain ⟨j, hj, ej⟩ := it_ex hn (fun q => h1 (hr1.trans q))
    rw [ej] at hl
    refine lv_iconst (v := 0) hx hb d_M_at_9 (by decide) ?_
    refine lv_goto (tgt := 14) hx hb d_M_at_10 (by decide) ?_
    refine va_put (D := (dC, dI)) (ci := 4) (v := .int 0) (ty := .int) (C := R_M) (T := F_M) (N := 9) hx hb ha ui_M ft_M tk_M nm_M hown hK hP hD hS 0 rfl rfl 0 (by decide) (ha _ wm_M_5) (fun _ h9 => h9) rfl (by decide +kernel) rfl rfl (Nat.le_of_ble_eq_true rfl) d_M_at_14 (fun H locs hP hD hS => ?_)
    have hP : va_P (dC, dI) cl9 [(mx, .inr (4, [.int 0, .long sd, .int (nI n), .ref ro, .ref pl, .ref vl, .int (nI f), .ref pa, .ref pr])), (ro, .inl (cI, 6, .inl (rw_R cc))), (pl, .inl (cI, 120, .inl P9)), (vl, .inl (cI, 120, .inl V9))] H := hP
    have hD : va_D A [(mx, .inr (4, [.int 0, .long sd, .int (nI n), .ref ro, .ref pl, .ref vl, .int (nI f), .ref pa, .ref pr])), (ro, .inl (cI, 6, .inl (rw_R cc))), (pl, .inl (cI, 120, .inl P9)), (vl, .inl (cI, 120, .inl V9))] := hD
    refine lv_aload_n hx hb d_M_at_17 rfl (lv_at hl 0 rfl) ?_
    refine va_get (D := (dC, dI)) (ci := 4) (v := .int 0) (C := R_M) (T := F_M) (N := 9) hx hb ha ui_M hown hK hP 0 rfl rfl 0 (by decide) (ha _ wm_M_5) (fun _ h9 => h9) rfl d_M_at_18 ?_
    refine lv_if_le (tgt := 28) hx hb d_M_at_21 (by decide) (fun hq => ?_) (fun hq => ?_)
    · refine lv_aload_n hx hb d_M_at_28 rfl (lv_at hl 0 rfl) ?_
      refine lv_iload_n hx hb d_M_at_29 rfl (lv_at hl 1 rfl) ?_
      refine lv_iload_n hx hb d_M_at_30 rfl (lv_at hl 2 rfl) ?_
      refine cs_calll (va_runV (As := [.int (nI j), .int p7]) (rest := []) ⟨hx, hb, hml, hown, ha⟩ (c_M_valueAt l dC dI mx 0 sd n ro pl vl f pa pr cI cc P9 V9 j p7 (by omega) (hcc j hj) (hasc j hj) _) (cwV 2 ha g_M_M_valueAt rfl rfl rfl (by decide +kernel) ⟨Nat.le_of_ble_eq_true rfl, Nat.le_of_ble_eq_true rfl⟩) (ct_preV ct_G0ok trivial hK hP hD hS hA [0, 1, 2, 3] rfl (by decide) [0] rfl 0 4 rfl rfl rfl) rfl rfl hl.1 rfl (lv_room (Nat.le_of_ble_eq_true rfl)) d_M_at_31 ⟨Nat.le_of_ble_eq_true rfl, Nat.le_of_ble_eq_true rfl⟩) hP hD hS hA [0, 1, 2, 3] rfl (by decide) (fun _ => rfl) (fun r2 u7 H locs hr2 hP hD hS => ?_)
      have hP : va_P (dC, dI) cl9 [(mx, .inr (4, [.int 0, .long sd, .int (nI n), .ref ro, .ref pl, .ref vl, .int (nI f), .ref pa, .ref pr])), (ro, .inl (cI, 6, .inl (rw_R cc))), (pl, .inl (cI, 120, .inl P9)), (vl, .inl (cI, 120, .inl V9))] H := hP
      have hD : va_D A [(mx, .inr (4, [.int 0, .long sd, .int (nI n), .ref ro, .ref pl, .ref vl, .int (nI f), .ref pa, .ref pr])), (ro, .inl (cI, 6, .inl (rw_R cc))), (pl, .inl (cI, 120, .inl P9)), (vl, .inl (cI, 120, .inl V9))] := hD
      exact ct_lret hF d_M_at_34 0 (Or.inr ⟨j, hj, ej, hr2, rfl⟩) (hP.sub [0, 1, 2, 3] rfl) (hD.sub [0, 1, 2, 3] (by decide) rfl) hK hS
    · exact absurd (by decide) hq
set_option maxHeartbeats 4000000 in
set_option maxRecDepth 100000 in
/-- join(table, other, place) -/
theorem c_M_join (l : Launch) (dC : Nat → ClassId) (dI : Nat → Nat → Nat) (mx : Nat) (th : Int32) (sd : Int64) (n : Nat) (ro : Nat) (pl : Nat) (vl : Nat) (f : Nat) (pa : Nat) (pr : Nat) (cI : ClassId) (cc : Nat → Nat) (P9 : Nat → Int32) (V9 : Nat → Int32) (t o p7 : Int32) (hn : n ≤ 6) (hcc : ∀ j, j < n → cc j ≤ 20) (hasc : ∀ j, j < n → ∀ i, i + 1 < cc j → P9 (20 * j + i) < P9 (20 * j + i + 1)) (sz : Nat) : ct_L l y_M_join w_M_join { frames := 2, cells := 0, slots := 0, locals := 80 } (dC, dI) cl9 [(cI, .int)] ct_G0 [.ref mx, .int t, .int o, .int p7] [(mx, .inr (4, [.int th, .long sd, .int (nI n), .ref ro, .ref pl, .ref vl, .int (nI f), .ref pa, .ref pr])), (ro, .inl (cI, 6, .inl (rw_R cc))), (pl, .inl (cI, 120, .inl P9)), (vl, .inl (cI, 120, .inl V9))] sz (S := Int32) (fun r (u : Int32) => ((it_v n t = 0 ∨ it_v n o = 0) ∧ r = 0 ∧ u = 1) ∨ (∃ i j, (i < n ∧ t = nI i) ∧ (j < n ∧ o = nI j) ∧ r = jn9 (rv_v (cc i) (fun x => P9 (20 * i + x)) (fun x => V9 (20 * i + x)) p7) (rv_v (cc j) (fun i => P9 (20 * j + i)) (fun i => V9 (20 * j + i)) p7) ∧ u = 0)) (fun _ : Int32 => [(cI, .int)]) (fun u : Int32 => [(mx, .inr (4, [.int u, .long sd, .int (nI n), .ref ro, .ref pl, .ref vl, .int (nI f), .ref pa, .ref pr])), (ro, .inl (cI, 6, .inl (rw_R cc))), (pl, .inl (cI, 120, .inl P9)), (vl, .inl (cI, 120, .inl V9))]) 0 0 := by
  refine ct_of (Qf := fun A => va_Ql (fun r (u : Int32) => ((it_v n t = 0 ∨ it_v n o = 0) ∧ r = 0 ∧ u = 1) ∨ (∃ i j, (i < n ∧ t = nI i) ∧ (j < n ∧ o = nI j) ∧ r = jn9 (rv_v (cc i) (fun x => P9 (20 * i + x)) (fun x => V9 (20 * i + x)) p7) (rv_v (cc j) (fun i => P9 (20 * j + i)) (fun i => V9 (20 * j + i)) p7) ∧ u = 0)) (ct_B (S := Int32) (dC, dI) cl9 (fun _ : Int32 => [(cI, .int)]) A (fun u : Int32 => [(mx, .inr (4, [.int u, .long sd, .int (nI n), .ref ro, .ref pl, .ref vl, .int (nI f), .ref pa, .ref pr])), (ro, .inl (cI, 6, .inl (rw_R cc))), (pl, .inl (cI, 120, .inl P9)), (vl, .inl (cI, 120, .inl V9))])) A) (cc := b_M_join) (maxL := 8) (ret := ((some .long))) (by decide) rfl (Nat.le_of_ble_eq_true rfl) ?_
  intro p e s m below meth c A ls hF hA hP hK hD hG hS hl
  obtain ⟨hx, hb, hr, hml, hts, hown, hlocks, hnm⟩ := id hF
  have hown : s.vm.findClass R_M = some m.cls := hown
  have ha : ∀ w ∈ al_M, w.before [.ref mx, .int t, .int o, .int p7].toArray s = true := fun w h => hts w (List.mem_cons_of_mem _ h)
  have hl : lv_has ls 8 [(0, .ref mx), (1, .int t), (2, .int o), (3, .int p7)] := hl
  refine lv_aload_n hx hb d_M_join_0 rfl (lv_at hl 0 rfl) ?_
  refine lv_aload_n hx hb d_M_join_1 rfl (lv_at hl 0 rfl) ?_
  refine lv_iload_n hx hb d_M_join_2 rfl (lv_at hl 1 rfl) ?_
  refine cs_calli (va_runV (As := [.int t]) (rest := [.ref mx]) ⟨hx, hb, hml, hown, ha⟩ (c_M_isTable l dC dI mx th sd n ro pl vl f pa pr t _) (cwV 1 ha g_M_M_isTable rfl rfl rfl (by decide +kernel) ⟨Nat.le_of_ble_eq_true rfl, Nat.le_of_ble_eq_true rfl⟩) (ct_preV ct_G0ok trivial hK hP hD hS hA [0] rfl (by decide) [] rfl 0 4 rfl rfl rfl) rfl rfl hl.1 rfl (lv_room (Nat.le_of_ble_eq_true rfl)) d_M_join_3 ⟨Nat.le_of_ble_eq_true rfl, Nat.le_of_ble_eq_true rfl⟩) hP hD hS hA [0] rfl (by decide) (fun _ => rfl) (fun r1 u7 H locs hr1 hP hD hS => ?_)
  have hP : va_P (dC, dI) cl9 [(mx, .inr (4, [.int th, .long sd, .int (nI n), .ref ro, .ref pl, .ref vl, .int (nI f), .ref pa, .ref pr])), (ro, .inl (cI, 6, .inl (rw_R cc))), (pl, .inl (cI, 120, .inl P9)), (vl, .inl (cI, 120, .inl V9))] H := hP
  have hD : va_D A [(mx, .inr (4, [.int th, .long sd, .int (nI n), .ref ro, .ref pl, .ref vl, .int (nI f), .ref pa, .ref pr])), (ro, .inl (cI, 6, .inl (rw_R cc))), (pl, .inl (cI, 120, .inl P9)), (vl, .inl (cI, 120, .inl V9))] := hD
  refine lv_if_eq (tgt := 21) hx hb d_M_join_6 (by decide) (fun h1 => ?_) (fun h1 => ?_)
  · refine lv_iconst (v := 1) hx hb d_M_join_21 (by decide) ?_
    refine va_put (D := (dC, dI)) (ci := 4) (v := .int 1) (ty := .int) (C := R_M) (T := F_M) (N := 9) hx hb ha ui_M ft_M tk_M nm_M hown hK hP hD hS 0 rfl rfl 0 (by decide) (ha _ wm_M_5) (fun _ h9 => h9) rfl (by decide +kernel) rfl rfl (Nat.le_of_ble_eq_true rfl) d_M_join_22 (fun H locs hP hD hS => ?_)
    have hP : va_P (dC, dI) cl9 [(mx, .inr (4, [.int 1, .long sd, .int (nI n), .ref ro, .ref pl, .ref vl, .int (nI f), .ref pa, .ref pr])), (ro, .inl (cI, 6, .inl (rw_R cc))), (pl, .inl (cI, 120, .inl P9)), (vl, .inl (cI, 120, .inl V9))] H := hP
    have hD : va_D A [(mx, .inr (4, [.int 1, .long sd, .int (nI n), .ref ro, .ref pl, .ref vl, .int (nI f), .ref pa, .ref pr])), (ro, .inl (cI, 6, .inl (rw_R cc))), (pl, .inl (cI, 120, .inl P9)), (vl, .inl (cI, 120, .inl V9))] := hD
    refine lv_aload_n hx hb d_M_join_25 rfl (lv_at hl 0 rfl) ?_
    refine va_get (D := (dC, dI)) (ci := 4) (v := .int 1) (C := R_M) (T := F_M) (N := 9) hx hb ha ui_M hown hK hP 0 rfl rfl 0 (by decide) (ha _ wm_M_5) (fun _ h9 => h9) rfl d_M_join_26 ?_
    refine lv_if_le (tgt := 34) hx hb d_M_join_29 (by decide) (fun hq => ?_) (fun hq => ?_)
    · exact absurd hq (by decide)
    · refine lv_lconst (v := 0) hx hb d_M_join_32 (by decide) ?_
      exact ct_lret hF d_M_join_33 1 (Or.inl ⟨Or.inl (hr1.symm.trans h1), rfl, rfl⟩) (hP.sub [0, 1, 2, 3] rfl) (hD.sub [0, 1, 2, 3] (by decide) rfl) hK hS
  · refine lv_aload_n hx hb d_M_join_9 rfl (lv_at hl 0 rfl) ?_
    refine lv_iload_n hx hb d_M_join_10 rfl (lv_at hl 2 rfl) ?_
    refine cs_calli (va_runV (As := [.int o]) (rest := [.ref mx]) ⟨hx, hb, hml, hown, ha⟩ (c_M_isTable l dC dI mx th sd n ro pl vl f pa pr o _) (cwV 1 ha g_M_M_isTable rfl rfl rfl (by decide +kernel) ⟨Nat.le_of_ble_eq_true rfl, Nat.le_of_ble_eq_true rfl⟩) (ct_preV ct_G0ok trivial hK hP hD hS hA [0] rfl (by decide) [] rfl 0 4 rfl rfl rfl) rfl rfl hl.1 rfl (lv_room (Nat.le_of_ble_eq_true rfl)) d_M_join_11 ⟨Nat.le_of_ble_eq_true rfl, Nat.le_of_ble_eq_true rfl⟩) hP hD hS hA [0] rfl (by decide) (fun _ => rfl) (fun r2 u7 H locs hr2 hP hD hS => ?_)
    have hP : va_P (dC, dI) cl9 [(mx, .inr (4, [.int th, .long sd, .int (nI n), .ref ro, .ref pl, .ref vl, .int (nI f), .ref pa, .ref pr])), (ro, .inl (cI, 6, .inl (rw_R cc))), (pl, .inl (cI, 120, .inl P9)), (vl, .inl (cI, 120, .inl V9))] H := hP
    have hD : va_D A [(mx, .inr (4, [.int th, .long sd, .int (nI n), .ref ro, .ref pl, .ref vl, .int (nI f), .ref pa, .ref pr])), (ro, .inl (cI, 6, .inl (rw_R cc))), (pl, .inl (cI, 120, .inl P9)), (vl, .inl (cI, 120, .inl V9))] := hD
    refine lv_if_eq (tgt := 21) hx hb d_M_join_14 (by decide) (fun h2 => ?_) (fun h2 => ?_)
    · refine lv_iconst (v := 1) hx hb d_M_join_21 (by decide) ?_
      refine va_put (D := (dC, dI)) (ci := 4) (v := .int 1) (ty := .int) (C := R_M) (T := F_M) (N := 9) hx hb ha ui_M ft_M tk_M nm_M hown hK hP hD hS 0 rfl rfl 0 (by decide) (ha _ wm_M_5) (fun _ h9 => h9) rfl (by decide +kernel) rfl rfl (Nat.le_of_ble_eq_true rfl) d_M_join_22 (fun H locs hP hD hS => ?_)
      have hP : va_P (dC, dI) cl9 [(mx, .inr (4, [.int 1, .long sd, .int (nI n), .ref ro, .ref pl, .ref vl, .int (nI f), .ref pa, .ref pr])), (ro, .inl (cI, 6, .inl (rw_R cc))), (pl, .inl (cI, 120, .inl P9)), (vl, .inl (cI, 120, .inl V9))] H := hP
      have hD : va_D A [(mx, .inr (4, [.int 1, .long sd, .int (nI n), .ref ro, .ref pl, .ref vl, .int (nI f), .ref pa, .ref pr])), (ro, .inl (cI, 6, .inl (rw_R cc))), (pl, .inl (cI, 120, .inl P9)), (vl, .inl (cI, 120, .inl V9))] := hD
      refine lv_aload_n hx hb d_M_join_25 rfl (lv_at hl 0 rfl) ?_
      refine va_get (D := (dC, dI)) (ci := 4) (v := .int 1) (C := R_M) (T := F_M) (N := 9) hx hb ha ui_M hown hK hP 0 rfl rfl 0 (by decide) (ha _ wm_M_5) (fun _ h9 => h9) rfl d_M_join_26 ?_
      refine lv_if_le (tgt := 34) hx hb d_M_join_29 (by decide) (fun hq => ?_) (fun hq => ?_)
      · exact absurd hq (by decide)
      · refine lv_lconst (v := 0) hx hb d_M_join_32 (by decide) ?_
        exact ct_lret hF d_M_join_33 1 (Or.inl ⟨Or.inr (hr2.symm.trans h2), rfl, rfl⟩) (hP.sub [0, 1, 2, 3] rfl) (hD.sub [0, 1, 2, 3] (by decide) rfl) hK hS
    · obtain ⟨i, hi, ei⟩ := it_ex hn (fun q => h1 (hr1.trans q))
      obtain ⟨j, hj, ej⟩ := it_ex hn (fun q => h2 (hr2.trans q))
      rw [ei, ej] at hl
      refine lv_iconst (v := 0) hx hb d_M_join_17 (by decide) ?_
      refine lv_goto (tgt := 22) hx hb d_M_join_18 (by decide) ?_
      refine va_put (D := (dC, dI)) (ci := 4) (v := .int 0) (ty := .int) (C := R_M) (T := F_M) (N := 9) hx hb ha ui_M ft_M tk_M nm_M hown hK hP hD hS 0 rfl rfl 0 (by decide) (ha _ wm_M_5) (fun _ h9 => h9) rfl (by decide +kernel) rfl rfl (Nat.le_of_ble_eq_true rfl) d_M_join_22 (fun H locs hP hD hS => ?_)
      have hP : va_P (dC, dI) cl9 [(mx, .inr (4, [.int 0, .long sd, .int (nI n), .ref ro, .ref pl, .ref vl, .int (nI f), .ref pa, .ref pr])), (ro, .inl (cI, 6, .inl (rw_R cc))), (pl, .inl (cI, 120, .inl P9)), (vl, .inl (cI, 120, .inl V9))] H := hP
      have hD : va_D A [(mx, .inr (4, [.int 0, .long sd, .int (nI n), .ref ro, .ref pl, .ref vl, .int (nI f), .ref pa, .ref pr])), (ro, .inl (cI, 6, .inl (rw_R cc))), (pl, .inl (cI, 120, .inl P9)), (vl, .inl (cI, 120, .inl V9))] := hD
      refine lv_aload_n hx hb d_M_join_25 rfl (lv_at hl 0 rfl) ?_
      refine va_get (D := (dC, dI)) (ci := 4) (v := .int 0) (C := R_M) (T := F_M) (N := 9) hx hb ha ui_M hown hK hP 0 rfl rfl 0 (by decide) (ha _ wm_M_5) (fun _ h9 => h9) rfl d_M_join_26 ?_
      refine lv_if_le (tgt := 34) hx hb d_M_join_29 (by decide) (fun hq => ?_) (fun hq => ?_)
      · refine lv_aload_n hx hb d_M_join_34 rfl (lv_at hl 0 rfl) ?_
        refine lv_iload_n hx hb d_M_join_35 rfl (lv_at hl 1 rfl) ?_
        refine lv_iload_n hx hb d_M_join_36 rfl (lv_at hl 3 rfl) ?_
        refine cs_calll (va_runV (As := [.int (nI i), .int p7]) (rest := []) ⟨hx, hb, hml, hown, ha⟩ (c_M_valueAt l dC dI mx 0 sd n ro pl vl f pa pr cI cc P9 V9 i p7 (by omega) (hcc i hi) (hasc i hi) _) (cwV 2 ha g_M_M_valueAt rfl rfl rfl (by decide +kernel) ⟨Nat.le_of_ble_eq_true rfl, Nat.le_of_ble_eq_true rfl⟩) (ct_preV ct_G0ok trivial hK hP hD hS hA [0, 1, 2, 3] rfl (by decide) [0] rfl 0 4 rfl rfl rfl) rfl rfl hl.1 rfl (lv_room (Nat.le_of_ble_eq_true rfl)) d_M_join_37 ⟨Nat.le_of_ble_eq_true rfl, Nat.le_of_ble_eq_true rfl⟩) hP hD hS hA [0, 1, 2, 3] rfl (by decide) (fun _ => rfl) (fun r4 u7 H locs hr4 hP hD hS => ?_)
        have hP : va_P (dC, dI) cl9 [(mx, .inr (4, [.int 0, .long sd, .int (nI n), .ref ro, .ref pl, .ref vl, .int (nI f), .ref pa, .ref pr])), (ro, .inl (cI, 6, .inl (rw_R cc))), (pl, .inl (cI, 120, .inl P9)), (vl, .inl (cI, 120, .inl V9))] H := hP
        have hD : va_D A [(mx, .inr (4, [.int 0, .long sd, .int (nI n), .ref ro, .ref pl, .ref vl, .int (nI f), .ref pa, .ref pr])), (ro, .inl (cI, 6, .inl (rw_R cc))), (pl, .inl (cI, 120, .inl P9)), (vl, .inl (cI, 120, .inl V9))] := hD
        refine lv_lstore (lv' := [(4, .long r4), (0, .ref mx), (1, .int (nI i)), (2, .int (nI j)), (3, .int p7)]) hx hb d_M_join_40 hl (by decide) rfl (fun ls hl => ?_)
        refine lv_aload_n hx hb d_M_join_42 rfl (lv_at hl 1 rfl) ?_
        refine lv_iload_n hx hb d_M_join_43 rfl (lv_at hl 3 rfl) ?_
        refine lv_iload_n hx hb d_M_join_44 rfl (lv_at hl 4 rfl) ?_
        refine cs_calll (va_runV (As := [.int (nI j), .int p7]) (rest := []) ⟨hx, hb, hml, hown, ha⟩ (c_M_valueAt l dC dI mx 0 sd n ro pl vl f pa pr cI cc P9 V9 j p7 (by omega) (hcc j hj) (hasc j hj) _) (cwV 2 ha g_M_M_valueAt rfl rfl rfl (by decide +kernel) ⟨Nat.le_of_ble_eq_true rfl, Nat.le_of_ble_eq_true rfl⟩) (ct_preV ct_G0ok trivial hK hP hD hS hA [0, 1, 2, 3] rfl (by decide) [0] rfl 0 4 rfl rfl rfl) rfl rfl hl.1 rfl (lv_room (Nat.le_of_ble_eq_true rfl)) d_M_join_45 ⟨Nat.le_of_ble_eq_true rfl, Nat.le_of_ble_eq_true rfl⟩) hP hD hS hA [0, 1, 2, 3] rfl (by decide) (fun _ => rfl) (fun r5 u7 H locs hr5 hP hD hS => ?_)
        have hP : va_P (dC, dI) cl9 [(mx, .inr (4, [.int 0, .long sd, .int (nI n), .ref ro, .ref pl, .ref vl, .int (nI f), .ref pa, .ref pr])), (ro, .inl (cI, 6, .inl (rw_R cc))), (pl, .inl (cI, 120, .inl P9)), (vl, .inl (cI, 120, .inl V9))] H := hP
        have hD : va_D A [(mx, .inr (4, [.int 0, .long sd, .int (nI n), .ref ro, .ref pl, .ref vl, .int (nI f), .ref pa, .ref pr])), (ro, .inl (cI, 6, .inl (rw_R cc))), (pl, .inl (cI, 120, .inl P9)), (vl, .inl (cI, 120, .inl V9))] := hD
        refine lv_lstore (lv' := [(6, .long r5), (4, .long r4), (0, .ref mx), (1, .int (nI i)), (2, .int (nI j)), (3, .int p7)]) hx hb d_M_join_48 hl (by decide) rfl (fun ls hl => ?_)
        refine lv_lload hx hb d_M_join_50 (lv_at hl 1 rfl) ?_
        refine lv_ldc2 (v := (-9223372036854775808)) hx hb hown (ha _ wm_M_78) d_M_join_52 ?_
        refine ct_jeq (tgt := 68) hx hb d_M_join_55 d_M_join_56 (by decide) (fun h6 => ?_) (fun h6 => ?_)
        · refine lv_ldc2 (v := (-9223372036854775808)) hx hb hown (ha _ wm_M_78) d_M_join_68 ?_
          refine lv_goto (tgt := 79) hx hb d_M_join_71 (by decide) ?_
          exact ct_lret hF d_M_join_79 0 (Or.inr ⟨i, j, ⟨hi, ei⟩, ⟨hj, ej⟩, (by rw [← hr4, ← hr5]; exact (if_pos h6).symm), rfl⟩) (hP.sub [0, 1, 2, 3] rfl) (hD.sub [0, 1, 2, 3] (by decide) rfl) hK hS
        · refine lv_lload hx hb d_M_join_59 (lv_at hl 0 rfl) ?_
          refine lv_ldc2 (v := (-9223372036854775808)) hx hb hown (ha _ wm_M_78) d_M_join_61 ?_
          refine ct_jne (tgt := 74) hx hb d_M_join_64 d_M_join_65 (by decide) (fun h7 => ?_) (fun h7 => ?_)
          · refine lv_lload hx hb d_M_join_74 (lv_at hl 1 rfl) ?_
            refine lv_lload hx hb d_M_join_76 (lv_at hl 0 rfl) ?_
            refine lv_lsub hx hb d_M_join_78 ?_
            exact ct_lret hF d_M_join_79 0 (Or.inr ⟨i, j, ⟨hi, ei⟩, ⟨hj, ej⟩, (by rw [← hr4, ← hr5]; exact ((if_neg h6).trans (if_neg h7)).symm), rfl⟩) (hP.sub [0, 1, 2, 3] rfl) (hD.sub [0, 1, 2, 3] (by decide) rfl) hK hS
          · refine lv_ldc2 (v := (-9223372036854775808)) hx hb hown (ha _ wm_M_78) d_M_join_68 ?_
            refine lv_goto (tgt := 79) hx hb d_M_join_71 (by decide) ?_
            exact ct_lret hF d_M_join_79 0 (Or.inr ⟨i, j, ⟨hi, ei⟩, ⟨hj, ej⟩, (by rw [← hr4, ← hr5]; exact ((if_neg h6).trans (if_pos h7)).symm), rfl⟩) (hP.sub [0, 1, 2, 3] rfl) (hD.sub [0, 1, 2, 3] (by decide) rfl) hK hS
      · exact absurd (by decide) hq
set_option maxHeartbeats 4000000 in
set_option maxRecDepth 100000 in
/-- a draw -/
theorem c_M_drawn (l : Launch) (dC : Nat → ClassId) (dI : Nat → Nat → Nat) (mx : Nat) (th : Int32) (sd : Int64) (n : Nat) (ro : Nat) (pl : Nat) (vl : Nat) (f : Nat) (pa : Nat) (pr : Nat) (x : Int64) (k : Int32) (sz : Nat) : ct_I l y_M_drawn w_M_drawn { frames := 0, cells := 0, slots := 0, locals := 0 } (dC, dI) cl9 [] ct_G0 [.ref mx, .long x, .int k] [(mx, .inr (4, [.int th, .long sd, .int (nI n), .ref ro, .ref pl, .ref vl, .int (nI f), .ref pa, .ref pr]))] sz (S := Unit) (fun r _ => r = dr_v sd x k) (fun _ : Unit => []) (fun _ => [(mx, .inr (4, [.int 0, .long sd, .int (nI n), .ref ro, .ref pl, .ref vl, .int (nI f), .ref pa, .ref pr]))]) 0 0 := by
  refine ct_of (Qf := fun A => va_Qi (fun r _ => r = dr_v sd x k) (ct_B (S := Unit) (dC, dI) cl9 (fun _ : Unit => []) A (fun _ => [(mx, .inr (4, [.int 0, .long sd, .int (nI n), .ref ro, .ref pl, .ref vl, .int (nI f), .ref pa, .ref pr]))])) A) (cc := b_M_drawn) (maxL := 6) (ret := ((some .int))) (by decide) rfl (Nat.le_of_ble_eq_true rfl) ?_
  intro p e s m below meth c A ls hF hA hP hK hD hG hS hl
  obtain ⟨hx, hb, hr, hml, hts, hown, hlocks, hnm⟩ := id hF
  have hown : s.vm.findClass R_M = some m.cls := hown
  have ha : ∀ w ∈ al_M, w.before [.ref mx, .long x, .int k].toArray s = true := fun w h => hts w (List.mem_cons_of_mem _ h)
  have hl : lv_has ls 6 [(0, .ref mx), (1, .long x), (3, .int k)] := hl
  refine lv_aload_n hx hb d_M_drawn_0 rfl (lv_at hl 0 rfl) ?_
  refine lv_iconst (v := 0) hx hb d_M_drawn_1 (by decide) ?_
  refine va_put (D := (dC, dI)) (ci := 4) (v := .int 0) (ty := .int) (C := R_M) (T := F_M) (N := 9) hx hb ha ui_M ft_M tk_M nm_M hown hK hP hD hS 0 rfl rfl 0 (by decide) (ha _ wm_M_5) (fun _ h9 => h9) rfl (by decide +kernel) rfl rfl (Nat.le_of_ble_eq_true rfl) d_M_drawn_2 (fun H locs hP hD hS => ?_)
  have hP : va_P (dC, dI) cl9 [(mx, .inr (4, [.int 0, .long sd, .int (nI n), .ref ro, .ref pl, .ref vl, .int (nI f), .ref pa, .ref pr]))] H := hP
  have hD : va_D A [(mx, .inr (4, [.int 0, .long sd, .int (nI n), .ref ro, .ref pl, .ref vl, .int (nI f), .ref pa, .ref pr]))] := hD
  refine lv_aload_n hx hb d_M_drawn_5 rfl (lv_at hl 0 rfl) ?_
  refine va_get (D := (dC, dI)) (ci := 4) (v := .long sd) (C := R_M) (T := F_M) (N := 9) hx hb ha ui_M hown hK hP 0 rfl rfl 1 (by decide) (ha _ wm_M_6) (fun _ h9 => h9) rfl d_M_drawn_6 ?_
  refine lv_ldc2 (v := (-7046029254386353131)) hx hb hown (ha _ wm_M_170) d_M_drawn_9 ?_
  refine lv_lload_n hx hb d_M_drawn_12 rfl (lv_at hl 1 rfl) ?_
  refine lv_lconst (v := 1) hx hb d_M_drawn_13 (by decide) ?_
  refine lv_ladd hx hb d_M_drawn_14 ?_
  refine lv_lmul hx hb d_M_drawn_15 ?_
  refine lv_ladd hx hb d_M_drawn_16 ?_
  refine lv_ldc2 (v := (-3335678366873096957)) hx hb hown (ha _ wm_M_171) d_M_drawn_17 ?_
  refine lv_iload_n hx hb d_M_drawn_20 rfl (lv_at hl 2 rfl) ?_
  refine lv_i2l hx hb d_M_drawn_21 rfl ?_
  refine lv_lmul hx hb d_M_drawn_22 ?_
  refine lv_ladd hx hb d_M_drawn_23 ?_
  refine lv_topl (fun z1 ez1 => ?_)
  refine lv_lstore (lv' := [(4, .long z1), (0, .ref mx), (1, .long x), (3, .int k)]) hx hb d_M_drawn_24 hl (by decide) rfl (fun ls hl => ?_)
  refine lv_lload hx hb d_M_drawn_26 (lv_at hl 0 rfl) ?_
  refine lv_lload hx hb d_M_drawn_28 (lv_at hl 0 rfl) ?_
  refine lv_bipush (v := 30) hx hb d_M_drawn_30 (by decide) ?_
  refine lv_lushr (v := (pu_us z1 30)) hx hb d_M_drawn_32 rfl ?_
  refine lv_lxor hx hb d_M_drawn_33 ?_
  refine lv_ldc2 (v := (-4658895280553007687)) hx hb hown (ha _ wm_M_172) d_M_drawn_34 ?_
  refine lv_lmul hx hb d_M_drawn_37 ?_
  refine lv_topl (fun z2 ez2 => ?_)
  refine lv_lstore (lv' := [(4, .long z2), (0, .ref mx), (1, .long x), (3, .int k)]) hx hb d_M_drawn_38 hl (by decide) rfl (fun ls hl => ?_)
  refine lv_lload hx hb d_M_drawn_40 (lv_at hl 0 rfl) ?_
  refine lv_lload hx hb d_M_drawn_42 (lv_at hl 0 rfl) ?_
  refine lv_bipush (v := 27) hx hb d_M_drawn_44 (by decide) ?_
  refine lv_lushr (v := (pu_us z2 27)) hx hb d_M_drawn_46 rfl ?_
  refine lv_lxor hx hb d_M_drawn_47 ?_
  refine lv_ldc2 (v := (-7723592293110705685)) hx hb hown (ha _ wm_M_173) d_M_drawn_48 ?_
  refine lv_lmul hx hb d_M_drawn_51 ?_
  refine lv_topl (fun z3 ez3 => ?_)
  refine lv_lstore (lv' := [(4, .long z3), (0, .ref mx), (1, .long x), (3, .int k)]) hx hb d_M_drawn_52 hl (by decide) rfl (fun ls hl => ?_)
  refine lv_lload hx hb d_M_drawn_54 (lv_at hl 0 rfl) ?_
  refine lv_lload hx hb d_M_drawn_56 (lv_at hl 0 rfl) ?_
  refine lv_bipush (v := 31) hx hb d_M_drawn_58 (by decide) ?_
  refine lv_lushr (v := (pu_us z3 31)) hx hb d_M_drawn_60 rfl ?_
  refine lv_lxor hx hb d_M_drawn_61 ?_
  refine lv_topl (fun z4 ez4 => ?_)
  refine lv_lstore (lv' := [(4, .long z4), (0, .ref mx), (1, .long x), (3, .int k)]) hx hb d_M_drawn_62 hl (by decide) rfl (fun ls hl => ?_)
  refine lv_lload hx hb d_M_drawn_64 (lv_at hl 0 rfl) ?_
  refine lv_bipush (v := 11) hx hb d_M_drawn_66 (by decide) ?_
  refine lv_lushr (v := (pu_us z4 11)) hx hb d_M_drawn_68 rfl ?_
  refine lv_ldc2 (v := 1000000000) hx hb hown (ha _ wm_M_31) d_M_drawn_69 ?_
  refine lv_lrem hx hb d_M_drawn_72 (by decide) ?_
  refine lv_l2i hx hb d_M_drawn_73 rfl ?_
  exact ct_iret hF d_M_drawn_74 () (by subst ez4; subst ez3; subst ez2; subst ez1; rfl) (hP.sub [0] rfl) (hD.sub [0] (by decide) rfl) hK hS
