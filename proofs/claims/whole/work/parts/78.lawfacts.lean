def sg_G (b L : Nat) (xs : Nat → Int32) : ct_GT := fun A U H => va_X b L xs U H ∧ ¬ A b
theorem va_X.lt9 {b L : Nat} {xs : Nat → Int32} {U : State} {H : Heap} (h : va_X b L xs U H) : b < H.size := by
  obtain ⟨scr, h1, -⟩ := h
  exact (Array.getElem?_eq_some_iff.mp h1).1
theorem sg_Gok (b L : Nat) (xs : Nat → Int32) : ct_Gok (sg_G b L xs) := ⟨fun _ _ _ _ h q => ⟨va_X.moved (ct_alk h) q.1, q.2⟩, fun _ _ _ _ h q => ⟨va_X.kept q.1 (h _ (va_X.lt9 q.1) q.2), q.2⟩, fun _ _ _ _ h q => ⟨q.1, fun z => q.2 (h _ z)⟩⟩
theorem ex_ref {args : Array Value} {s : State} {t : Term} {C : String} (h : (Cond.exactly t C).before args s = true) : ∃ a : Nat, t.eval args s none [] s = some (.ref a) := by
  obtain ⟨a, c, cell, k, h1, -⟩ := Cond.exactly_spec h
  exact ⟨a, h1⟩
theorem ar_prim {args : Array Value} {s : State} (h : (Cond.arrayClass .long).before args s = true) : ∃ c : ClassId, ArrOfT s c .long ∧ va_RA s c .long := by
  obtain ⟨cA, kA, comp, h1, h2, h3⟩ := Cond.arrayClass_spec h
  exact ⟨cA, fun n z => ⟨fun k h => (by cases h), kA, h2, comp, h3⟩, h1⟩
theorem ar_int {args : Array Value} {s : State} (h : (Cond.arrayClass .int).before args s = true) : ∃ c : ClassId, ArrOfT s c .int ∧ va_RA s c .int := by
  obtain ⟨cA, kA, comp, h1, h2, h3⟩ := Cond.arrayClass_spec h
  exact ⟨cA, fun n z => ⟨fun k h => (by cases h), kA, h2, comp, h3⟩, h1⟩
theorem ar_obj {args : Array Value} {s : State} {C : String} (h : (Cond.arrayOver (.object C)).before args s = true) : ∃ c : ClassId, ArrOfT s c (.object C) ∧ va_RA s c (.object C) := by
  obtain ⟨comp, cA, kA, h1, -, h2, h3, h4⟩ := Cond.arrayOver_spec h
  exact ⟨cA, fun n z => ⟨fun k h => (by cases h), kA, h2, comp, h3⟩, kA, comp, h2, h3, h1, h4⟩
set_option maxHeartbeats 4000000 in
set_option maxRecDepth 100000 in
/-- cell(script, 0) -/
theorem c_L_cell (l : Launch) (dC : Nat → ClassId) (dI : Nat → Nat → Nat) (b L : Nat) (hL : L < 2 ^ 31) (xs : Nat → Int32) (sz : Nat) : ct_I l y_L_cell w_L_cell { frames := 0, cells := 0, slots := 0, locals := 0 } (dC, dI) cl9 [] (sg_G b L xs) [.ref b, .int 0] [] sz (S := Unit) (fun r _ => r = if 0 < L then xs 0 else 0) (fun _ : Unit => []) (fun _ => []) 0 0 := by
  refine ct_of (Qf := fun A => va_Qi (fun r _ => r = if 0 < L then xs 0 else 0) (ct_B (S := Unit) (dC, dI) cl9 (fun _ : Unit => []) A (fun _ => [])) A) (cc := b_L_cell) (maxL := 2) (ret := (some .int)) (by decide) rfl (Nat.le_of_ble_eq_true rfl) ?_
  intro p e s m below meth c A ls hF hA hP hK hD hG hS hl
  obtain ⟨hx, hb, hr, hml, hts, hown, hlocks, hnm⟩ := id hF
  have hown : s.vm.findClass R_L = some m.cls := hown
  have ha : ∀ w ∈ al_L, w.before [.ref b, .int 0].toArray s = true := fun w h => hts w (List.mem_cons_of_mem _ h)
  have hl : lv_has ls 2 [(0, .ref b), (1, .int 0)] := hl
  refine lv_iload_n hx hb d_L_cell_0 rfl (lv_at hl 1 rfl) ?_
  refine lv_aload_n hx hb d_L_cell_1 rfl (lv_at hl 0 rfl) ?_
  refine va_slen hx hb hG.1 (va_X.lt9 hG.1) hG.2 hS d_L_cell_2 ?_
  refine lv_icmp_ge (tgt := 12) hx hb d_L_cell_3 (by decide) (fun hc => ?_) (fun hc => ?_)
  · have h0 : ¬ 0 < L := fun q => nI_nle q hL hc
    refine lv_iconst (v := 0) hx hb d_L_cell_12 (by decide) ?_
    exact ct_iret hF d_L_cell_13 () (if_neg h0).symm (hP.sub [] rfl) (hD.sub [] (by decide) rfl) hK hS
  · have h0 : 0 < L := Nat.pos_of_ne_zero (fun q => hc (by rw [q]; decide))
    refine lv_aload_n hx hb d_L_cell_6 rfl (lv_at hl 0 rfl) ?_
    refine lv_iload_n hx hb d_L_cell_7 rfl (lv_at hl 1 rfl) ?_
    refine va_sld hx hb hG.1 (va_X.lt9 hG.1) hG.2 hS (show vp_in 0 L from vp_in_nI (n := 0) h0 hL) d_L_cell_8 ?_
    refine lv_goto (tgt := 13) hx hb d_L_cell_9 (by decide) ?_
    exact ct_iret hF d_L_cell_13 () (if_pos h0).symm (hP.sub [] rfl) (hD.sub [] (by decide) rfl) hK hS
theorem xb_mem : ∀ w ∈ xb_I ++ xb_S, w ∈ lw_tbl := mem_ps [150, 152, 154, 148, 150, 152, 154, 460] rfl
set_option maxHeartbeats 4000000 in
set_option maxRecDepth 100000 in
theorem lw_Gex {p : Program} {s : State} {m : MethodId} {meth : Method} {c : Code} {b L : Nat} {xs : Nat → Int32} (C0 : lw_At p s m meth c b L xs) : (∃ s1 s2 s3 s4 tl th ta : Nat, lg_G s1 s2 s3 s4 tl th ta (fun q : Nat => s.heap.size ≤ q) s s.heap) ∧ nf_G (fun q : Nat => s.heap.size ≤ q) s s.heap := by
  obtain ⟨hx, hb, hr, hml, hown, hts, hX, hbl, hlocks, hgv⟩ := C0
  have hq := flat_of_before _ hgv
  have hA : ∀ a : Nat, a < s.heap.size → ¬ (fun q : Nat => s.heap.size ≤ q) a := fun a h => Nat.not_le.mpr h
  have hw : ∀ (k : Nat) (w : Cond), lw_tbl[k]? = some w → w.before #[Value.ref b] s = true := fun k w h => hts w (List.mem_of_getElem? h)
  have hf : ∀ (k : Nat) (w : Cond), (flatC (Jvm.Cond.and given_1 narrow_1))[k]? = some w → w.before #[Value.ref b] s = true := fun k w h => hq w (List.mem_of_getElem? h)
  obtain ⟨s1, e1⟩ := ex_ref (t := .string R_F 148) (C := "java/lang/String") (hf 76 _ rfl)
  have q1 : vk_R R_F 148 "a number is out of its bounds" s1 s := vk_R.of (hw 186 _ rfl) e1
  obtain ⟨s2, e2⟩ := ex_ref (t := .string R_F 114) (C := "java/lang/String") (hf 109 _ rfl)
  have q2 : vk_R R_F 114 "there are 6 tables" s2 s := vk_R.of (hw 467 _ rfl) e2
  obtain ⟨s3, e3⟩ := ex_ref (t := .string R_F 151) (C := "java/lang/String") (hf 132 _ rfl)
  have q3 : vk_R R_F 151 "there is no such table" s3 s := vk_R.of (hw 485 _ rfl) e3
  obtain ⟨s4, e4⟩ := ex_ref (t := .string R_F 129) (C := "java/lang/String") (hf 160 _ rfl)
  have q4 : vk_R R_F 129 "the table has 20 rows" s4 s := vk_R.of (hw 491 _ rfl) e4
  obtain ⟨tl, etl, qtl⟩ := va_Tof (tm := .static "HouseFunctions$Reckoner" "LOG_OF_TWO" "[J") (ty := .long) (N := 7) (f := fun j => .long (kc_L j)) (by decide) (hf 7 _ rfl) (va_eqt (hf 8 _ rfl)) (fun j hj => by
    rcases (show j = 0 ∨ j = 1 ∨ j = 2 ∨ j = 3 ∨ j = 4 ∨ j = 5 ∨ j = 6 by omega) with rfl | rfl | rfl | rfl | rfl | rfl | rfl
    · exact va_eqtl (hf 9 _ rfl)
    · exact va_eqtl (hf 10 _ rfl)
    · exact va_eqtl (hf 11 _ rfl)
    · exact va_eqtl (hf 12 _ rfl)
    · exact va_eqtl (hf 13 _ rfl)
    · exact va_eqtl (hf 14 _ rfl)
    · exact va_eqtl (hf 15 _ rfl)) hA
  have ztl : va_Z "HouseFunctions$Reckoner" "LOG_OF_TWO" "[J" (.ref tl) (fun q : Nat => s.heap.size ≤ q) s s.heap := va_Zof (hw 310 _ rfl) (hw 36 _ rfl) etl hA
  obtain ⟨th, eth, qth⟩ := va_Tof (tm := .static "HouseFunctions$Reckoner" "HALF_PI" "[J") (ty := .long) (N := 7) (f := fun j => .long (kc_H j)) (by decide) (hf 17 _ rfl) (va_eqt (hf 18 _ rfl)) (fun j hj => by
    rcases (show j = 0 ∨ j = 1 ∨ j = 2 ∨ j = 3 ∨ j = 4 ∨ j = 5 ∨ j = 6 by omega) with rfl | rfl | rfl | rfl | rfl | rfl | rfl
    · exact va_eqtl (hf 19 _ rfl)
    · exact va_eqtl (hf 20 _ rfl)
    · exact va_eqtl (hf 21 _ rfl)
    · exact va_eqtl (hf 22 _ rfl)
    · exact va_eqtl (hf 23 _ rfl)
    · exact va_eqtl (hf 24 _ rfl)
    · exact va_eqtl (hf 25 _ rfl)) hA
  have zth : va_Z "HouseFunctions$Reckoner" "HALF_PI" "[J" (.ref th) (fun q : Nat => s.heap.size ≤ q) s s.heap := va_Zof (hw 336 _ rfl) (hw 36 _ rfl) eth hA
  obtain ⟨ta, eta, qta⟩ := va_Tof (tm := .static "HouseFunctions$Reckoner" "ANGLES_BY_QUARTER_TANGENT" "[J") (ty := .long) (N := 35) (f := fun j => .long (kc_A j)) (by decide) (hf 27 _ rfl) (va_eqt (hf 28 _ rfl)) (fun j hj => by
    rcases (show j = 0 ∨ j = 1 ∨ j = 2 ∨ j = 3 ∨ j = 4 ∨ j = 5 ∨ j = 6 ∨ j = 7 ∨ j = 8 ∨ j = 9 ∨ j = 10 ∨ j = 11 ∨ j = 12 ∨ j = 13 ∨ j = 14 ∨ j = 15 ∨ j = 16 ∨ j = 17 ∨ j = 18 ∨ j = 19 ∨ j = 20 ∨ j = 21 ∨ j = 22 ∨ j = 23 ∨ j = 24 ∨ j = 25 ∨ j = 26 ∨ j = 27 ∨ j = 28 ∨ j = 29 ∨ j = 30 ∨ j = 31 ∨ j = 32 ∨ j = 33 ∨ j = 34 by omega) with rfl | rfl | rfl | rfl | rfl | rfl | rfl | rfl | rfl | rfl | rfl | rfl | rfl | rfl | rfl | rfl | rfl | rfl | rfl | rfl | rfl | rfl | rfl | rfl | rfl | rfl | rfl | rfl | rfl | rfl | rfl | rfl | rfl | rfl | rfl
    · exact va_eqtl (hf 29 _ rfl)
    · exact va_eqtl (hf 30 _ rfl)
    · exact va_eqtl (hf 31 _ rfl)
    · exact va_eqtl (hf 32 _ rfl)
    · exact va_eqtl (hf 33 _ rfl)
    · exact va_eqtl (hf 34 _ rfl)
    · exact va_eqtl (hf 35 _ rfl)
    · exact va_eqtl (hf 36 _ rfl)
    · exact va_eqtl (hf 37 _ rfl)
    · exact va_eqtl (hf 38 _ rfl)
    · exact va_eqtl (hf 39 _ rfl)
    · exact va_eqtl (hf 40 _ rfl)
    · exact va_eqtl (hf 41 _ rfl)
    · exact va_eqtl (hf 42 _ rfl)
    · exact va_eqtl (hf 43 _ rfl)
    · exact va_eqtl (hf 44 _ rfl)
    · exact va_eqtl (hf 45 _ rfl)
    · exact va_eqtl (hf 46 _ rfl)
    · exact va_eqtl (hf 47 _ rfl)
    · exact va_eqtl (hf 48 _ rfl)
    · exact va_eqtl (hf 49 _ rfl)
    · exact va_eqtl (hf 50 _ rfl)
    · exact va_eqtl (hf 51 _ rfl)
    · exact va_eqtl (hf 52 _ rfl)
    · exact va_eqtl (hf 53 _ rfl)
    · exact va_eqtl (hf 54 _ rfl)
    · exact va_eqtl (hf 55 _ rfl)
    · exact va_eqtl (hf 56 _ rfl)
    · exact va_eqtl (hf 57 _ rfl)
    · exact va_eqtl (hf 58 _ rfl)
    · exact va_eqtl (hf 59 _ rfl)
    · exact va_eqtl (hf 60 _ rfl)
    · exact va_eqtl (hf 61 _ rfl)
    · exact va_eqtl (hf 62 _ rfl)
    · exact va_eqtl (hf 63 _ rfl)) hA
  have zta : va_Z "HouseFunctions$Reckoner" "ANGLES_BY_QUARTER_TANGENT" "[J" (.ref ta) (fun q : Nat => s.heap.size ≤ q) s s.heap := va_Zof (hw 375 _ rfl) (hw 36 _ rfl) eta hA
  have xx : ∀ w ∈ xb_I ++ xb_S, va_Nw w s := fun w h => va_Nw.of (xb_ot w h) (hts w (xb_mem w h))
  have u1 : vx_Zq Bundle.tN "UNASSIGNED_STACK" Bundle.steD (fun q : Nat => s.heap.size ≤ q) s s.heap := vx_Zqof (hw 173 _ rfl) (hw 39 _ rfl) (hf 4 _ rfl) hA
  have u2 : vx_Zq Bundle.tN "SUPPRESSED_SENTINEL" Bundle.listD (fun q : Nat => s.heap.size ≤ q) s s.heap := vx_Zqof (hw 175 _ rfl) (hw 39 _ rfl) (hf 5 _ rfl) hA
  refine ⟨⟨s1, s2, s3, s4, tl, th, ta, ⟨⟨⟨⟨xx, u1, u2⟩, q1, q2, q3, q4⟩, ⟨ztl, qtl⟩, ⟨zth, qth⟩, ⟨zta, qta⟩⟩, va_Nc.of (hf 69 _ rfl)⟩⟩, ⟨va_Nw.of rfl (hw 80 _ rfl), va_Nw.of rfl (hw 57 _ rfl), va_Nw.of rfl (hw 74 _ rfl), va_AO.of (hw 55 _ rfl)⟩⟩
