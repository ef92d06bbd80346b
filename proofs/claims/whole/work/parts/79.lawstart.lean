theorem wm_L_2 : (Jvm.Cond.methodLink "HouseFunctionsLaw" (62 : Nat) ({ cls := "HouseFunctions", name := "<init>", desc := "(J)V" } : Jvm.MethodName)) ∈ al_L := List.mem_of_getElem? (i := 2) rfl
theorem wm_L_46 : (Jvm.Cond.methodLink "HouseFunctionsLaw" (67 : Nat) ({ cls := "HouseFunctionsModel", name := "<init>", desc := "(J)V" } : Jvm.MethodName)) ∈ al_L := List.mem_of_getElem? (i := 46) rfl
set_option maxHeartbeats 4000000 in
set_option maxRecDepth 100000 in
/-- the law's start -/
theorem whole_start0 {p : Program} {e : Env} {s : State} {m : MethodId} {below : List Frame} {meth : Method} {c : Code} (l : Launch) (hst : l.stackTraces = false) (hEQ_pw : EQ_pw) (hEQ_lg : EQ_lg) (hEQ_sn : EQ_sn) (hEQ_cs : EQ_cs) (hEQ_an : EQ_an) (hEQ_rt : EQ_rt) (hEQ_dp : EQ_dp) (hEQ_dw : EQ_dw) {b L : Nat} {xs : Nat → Int32} (hL : L ≤ 2049) (C0 : lw_At p s m meth c b L xs) : W p l e room_1 s m #[Value.ref b] below meth c s.heap [] 0 0 (lw_Z below #[Value.ref b] s) (entryFrame m ([Value.ref b] : List Value).toArray 8) := by
  obtain ⟨hx, hb, hr, hml, hown, hts, hX, hbl, hlocks, hgv⟩ := id C0
  have hA : ∀ q : Nat, s.heap.size ≤ q → (fun q : Nat => s.heap.size ≤ q) q := fun _ h => h
  have hbA : ¬ (fun q : Nat => s.heap.size ≤ q) b := Nat.not_le.mpr hbl
  have ha : ∀ w ∈ al_L, w.before #[Value.ref b] s = true := fun w h => hts w (am_L w h)
  have haF : ∀ w ∈ al_F, w.before #[Value.ref b] s = true := fun w h => hts w (am_F w h)
  have haM : ∀ w ∈ al_M, w.before #[Value.ref b] s = true := fun w h => hts w (am_M w h)
  have haK : ∀ w ∈ al_K, w.before #[Value.ref b] s = true := fun w h => haF w (sb_F_K w h)
  have haT : ∀ w ∈ al_T, w.before #[Value.ref b] s = true := fun w h => haF w (sb_F_T w h)
  have haW : ∀ w ∈ al_W, w.before #[Value.ref b] s = true := fun w h => haK w (sb_K_W w h)
  obtain ⟨c0, iS0, hKn0⟩ := u_known (C := R_W) (T := F_W) (N := 2) (n := 2) haW ui_W (haW _ wm_W_1)
  obtain ⟨c1, iS1, hKn1⟩ := u_known (C := R_K) (T := F_K) (N := 5) (n := 5) haK ui_K (haK _ wm_K_1)
  obtain ⟨c2, iS2, hKn2⟩ := u_known (C := R_T) (T := F_T) (N := 3) (n := 3) haT ui_T (haT _ wm_T_1)
  obtain ⟨c3, iS3, hKn3⟩ := u_known (C := R_F) (T := F_F) (N := 4) (n := 4) haF ui_F (haF _ wm_F_1)
  obtain ⟨c4, iS4, hKn4⟩ := u_known (C := R_M) (T := F_M) (N := 9) (n := 9) haM ui_M (haM _ wm_M_1)
  obtain ⟨dC, dI, hKc⟩ : ∃ (dC : Nat → ClassId) (dI : Nat → Nat → Nat), ∀ (k : Nat) (q : vw_C), cl9[k]? = some q → u_Kn s q.1 q.2.1 q.2.2 (dC k) (dI k) := by
    refine ⟨fun k => if k = 0 then c0 else if k = 1 then c1 else if k = 2 then c2 else if k = 3 then c3 else c4, fun k => if k = 0 then iS0 else if k = 1 then iS1 else if k = 2 then iS2 else if k = 3 then iS3 else iS4, ?_⟩
    intro k q hq
    match k, hq with
    | 0, hq => cases hq; exact hKn0
    | 1, hq => cases hq; exact hKn1
    | 2, hq => cases hq; exact hKn2
    | 3, hq => cases hq; exact hKn3
    | 4, hq => cases hq; exact hKn4
    | k + 5, hq => simp at hq
  obtain ⟨cL, aL⟩ := ar_prim (hts _ (List.mem_of_getElem? (i := 91) rfl))
  obtain ⟨cI, aI⟩ := ar_int (hts _ (List.mem_of_getElem? (i := 71) rfl))
  obtain ⟨cT, aT⟩ := ar_obj (C := "HouseFunctions$Table") (hts _ (List.mem_of_getElem? (i := 55) rfl))
  have hK : va_K (dC, dI) cl9 [(cL, .long), (cT, .object "HouseFunctions$Table"), (cI, .int)] s := by
    refine ⟨hKc, fun k q hq => ?_⟩
    match k, hq with
    | 0, hq => cases hq; exact aL
    | 1, hq => cases hq; exact aT
    | 2, hq => cases hq; exact aI
    | k + 3, hq => simp at hq
  obtain ⟨⟨s1, s2, s3, s4, tl, th, ta, hG⟩, hNF⟩ := lw_Gex C0
  have hSG : sg_G b L xs (fun q : Nat => s.heap.size ≤ q) s s.heap := ⟨hX, hbA⟩
  have hS : va_S (fun q : Nat => s.heap.size ≤ q) s.heap s.heap [] := va_S.rf
  have hP : va_P (dC, dI) cl9 [] s.heap := fun k q h => by simp at h
  have hD : va_D (fun q : Nat => s.heap.size ≤ q) [] := ⟨fun i j p q h => by simp at h, fun k q h => by simp at h⟩
  have hl := lv_entry ([.ref b]) (n := 8) (Nat.le_of_ble_eq_true rfl)
  rw [lg_entry_eq]
  generalize (lg_sl ([.ref b]) ++ List.replicate (8 - (lg_sl ([.ref b])).length) Slot.unset).toArray = ls at hl ⊢
  have hl : lv_has ls 8 [(0, .ref b)] := hl
  refine va_new (ci := 3) (fs := [.long 0, .null, .int 0, .null]) (C := R_F) (T := F_F) (N := 4) hx hb haF ui_F ft_F tk_F hown (ha _ wm_L_1) (haF _ wm_F_1) (haF _ wm_F_0) hK hP hD hS hA rfl (fun j hj => by rcases (show j = 0 ∨ j = 1 ∨ j = 2 ∨ j = 3 by omega) with rfl | rfl | rfl | rfl <;> rfl) (Nat.le_of_ble_eq_true rfl) (Nat.le_of_ble_eq_true rfl) d_law_0 (fun fx H hP hD hS => ?_)
  have hP : va_P (dC, dI) cl9 [(fx, .inr (3, [.long 0, .null, .int 0, .null]))] H := hP
  have hD : va_D (fun q : Nat => s.heap.size ≤ q) [(fx, .inr (3, [.long 0, .null, .int 0, .null]))] := hD
  refine lv_dup hx hb d_law_3 rfl ?_
  refine lv_aload_n hx hb d_law_4 rfl (lv_at hl 0 rfl) ?_
  refine lv_iconst (v := 0) hx hb d_law_5 (by decide) ?_
  refine cs_calli (va_runS (As := [.ref b, .int 0]) (rest := [.ref fx, .ref fx]) ⟨hx, hb, hml, hown, hts⟩ (c_L_cell l dC dI b L (by omega) xs _) (va_cwS 2 hts g_law_L_cell rfl rfl rfl (by decide +kernel) ⟨Nat.le_of_ble_eq_true rfl, Nat.le_of_ble_eq_true rfl⟩) (ct_pre (sg_Gok b L xs) hSG hK hP hD hS hA [] rfl (by decide) [] rfl) rfl rfl hl.1 rfl (lv_room (Nat.le_of_ble_eq_true rfl)) d_law_6 ⟨Nat.le_of_ble_eq_true rfl, Nat.le_of_ble_eq_true rfl⟩) hP hD hS hA [] rfl (by decide) (fun _ => rfl) (fun r1 u7 H locs hr1 hP hD hS => ?_)
  obtain ⟨hP, hD⟩ : va_P (dC, dI) cl9 [(fx, .inr (3, [.long 0, .null, .int 0, .null]))] H ∧ va_D (fun q : Nat => s.heap.size ≤ q) [(fx, .inr (3, [.long 0, .null, .int 0, .null]))] := ct_eqP (ct_sets_nil _ _) hP hD
  refine lv_i2l hx hb d_law_9 rfl ?_
  obtain ⟨sd, esd⟩ : ∃ x : Int64, x = r1.toInt64 := ⟨_, rfl⟩
  rw [← esd]
  refine ct_callv (wr := []) (va_runI (As := [.long sd]) (rest := [.ref fx]) ⟨hx, hb, hml, hown, hts⟩ (c_F_init l dC dI fx cL cT cI sd _) (cwI 1 hts g_law_F_init rfl rfl rfl (haF _ wm_F_0) (ha _ wm_L_2) (haF _ wm_F_2) rfl (by decide +kernel) ⟨Nat.le_of_ble_eq_true rfl, Nat.le_of_ble_eq_true rfl⟩) (ct_pre nf_Gok hNF hK hP hD hS hA [0] rfl (by decide) [0, 1, 2] rfl) rfl rfl hl.1 rfl (lv_room (Nat.le_of_ble_eq_true rfl)) d_law_10 ⟨Nat.le_of_ble_eq_true rfl, Nat.le_of_ble_eq_true rfl⟩) hP hD hS hA [0] [] rfl rfl (by decide) (by decide) (fun u1 H locs hwu1 hK1 hP hD hS => ?_)
  obtain ⟨tb, tt, ad⟩ := u1
  have hP : va_P (dC, dI) cl9 (fq_w fx sd tb 0 (ad 0) cT cI tt (fun _ => (0, (fun _ => 0), (fun _ => 0))) ++ rk_w ad cL (fun _ _ => 0)) H := hP
  have hD : va_D (fun q : Nat => s.heap.size ≤ q) (fq_w fx sd tb 0 (ad 0) cT cI tt (fun _ => (0, (fun _ => 0), (fun _ => 0))) ++ rk_w ad cL (fun _ _ => 0)) := hD
  refine lv_astore_n (lv' := [(1, .ref fx), (0, .ref b)]) hx hb d_law_13 rfl hl (by decide) rfl (fun ls hl => ?_)
  refine va_new (ci := 4) (fs := [.int 0, .long 0, .int 0, .null, .null, .null, .int 0, .null, .null]) (C := R_M) (T := F_M) (N := 9) hx hb haM ui_M ft_M tk_M hown (ha _ wm_L_45) (haM _ wm_M_1) (haM _ wm_M_0) hK hP hD hS hA rfl (fun j hj => by rcases (show j = 0 ∨ j = 1 ∨ j = 2 ∨ j = 3 ∨ j = 4 ∨ j = 5 ∨ j = 6 ∨ j = 7 ∨ j = 8 by omega) with rfl | rfl | rfl | rfl | rfl | rfl | rfl | rfl | rfl <;> rfl) (Nat.le_of_ble_eq_true rfl) (Nat.le_of_ble_eq_true rfl) d_law_14 (fun mx H hP hD hS => ?_)
  have hP : va_P (dC, dI) cl9 ((fq_w fx sd tb 0 (ad 0) cT cI tt (fun _ => (0, (fun _ => 0), (fun _ => 0))) ++ rk_w ad cL (fun _ _ => 0)) ++ [(mx, .inr (4, [.int 0, .long 0, .int 0, .null, .null, .null, .int 0, .null, .null]))]) H := hP
  have hD : va_D (fun q : Nat => s.heap.size ≤ q) ((fq_w fx sd tb 0 (ad 0) cT cI tt (fun _ => (0, (fun _ => 0), (fun _ => 0))) ++ rk_w ad cL (fun _ _ => 0)) ++ [(mx, .inr (4, [.int 0, .long 0, .int 0, .null, .null, .null, .int 0, .null, .null]))]) := hD
  refine lv_dup hx hb d_law_17 rfl ?_
  refine lv_aload_n hx hb d_law_18 rfl (lv_at hl 1 rfl) ?_
  refine lv_iconst (v := 0) hx hb d_law_19 (by decide) ?_
  refine cs_calli (va_runS (As := [.ref b, .int 0]) (rest := [.ref mx, .ref mx]) ⟨hx, hb, hml, hown, hts⟩ (c_L_cell l dC dI b L (by omega) xs _) (va_cwS 2 hts g_law_L_cell rfl rfl rfl (by decide +kernel) ⟨Nat.le_of_ble_eq_true rfl, Nat.le_of_ble_eq_true rfl⟩) (ct_pre (sg_Gok b L xs) hSG hK hP hD hS hA [] rfl (by decide) [] rfl) rfl rfl hl.1 rfl (lv_room (Nat.le_of_ble_eq_true rfl)) d_law_20 ⟨Nat.le_of_ble_eq_true rfl, Nat.le_of_ble_eq_true rfl⟩) hP hD hS hA [] rfl (by decide) (fun _ => rfl) (fun r2 u7 H locs hr2 hP hD hS => ?_)
  obtain ⟨hP, hD⟩ : va_P (dC, dI) cl9 ((fq_w fx sd tb 0 (ad 0) cT cI tt (fun _ => (0, (fun _ => 0), (fun _ => 0))) ++ rk_w ad cL (fun _ _ => 0)) ++ [(mx, .inr (4, [.int 0, .long 0, .int 0, .null, .null, .null, .int 0, .null, .null]))]) H ∧ va_D (fun q : Nat => s.heap.size ≤ q) ((fq_w fx sd tb 0 (ad 0) cT cI tt (fun _ => (0, (fun _ => 0), (fun _ => 0))) ++ rk_w ad cL (fun _ _ => 0)) ++ [(mx, .inr (4, [.int 0, .long 0, .int 0, .null, .null, .null, .int 0, .null, .null]))]) := ct_eqP (ct_sets_nil _ _) hP hD
  refine lv_i2l hx hb d_law_23 rfl ?_
  obtain rfl : r2 = r1 := hr2.trans hr1.symm
  rw [← esd]
  refine ct_callv (wr := (fq_w fx sd tb 0 (ad 0) cT cI tt (fun _ => (0, (fun _ => 0), (fun _ => 0))) ++ rk_w ad cL (fun _ _ => 0))) (va_runI (As := [.long sd]) (rest := [.ref mx]) ⟨hx, hb, hml, hown, hts⟩ (c_M_init l dC dI mx cL cI sd _) (cwI 1 hts g_law_M_init rfl rfl rfl (haM _ wm_M_0) (ha _ wm_L_46) (haM _ wm_M_2) rfl (by decide +kernel) ⟨Nat.le_of_ble_eq_true rfl, Nat.le_of_ble_eq_true rfl⟩) (ct_pre ct_G0ok trivial hK hP hD hS hA [36] rfl (by decide) [0, 2] rfl) rfl rfl hl.1 rfl (lv_room (Nat.le_of_ble_eq_true rfl)) d_law_24 ⟨Nat.le_of_ble_eq_true rfl, Nat.le_of_ble_eq_true rfl⟩) hP hD hS hA [36] [0, 1, 2, 3, 4, 5, 6, 7, 8, 9, 10, 11, 12, 13, 14, 15, 16, 17, 18, 19, 20, 21, 22, 23, 24, 25, 26, 27, 28, 29, 30, 31, 32, 33, 34, 35] rfl rfl (by decide) (by decide) (fun u2 H locs hwu2 hK1 hP hD hS => ?_)
  obtain ⟨ro, pl, vl, pa, pr⟩ := u2
  have hP : va_P (dC, dI) cl9 ((fq_w fx sd tb 0 (ad 0) cT cI tt (fun _ => (0, (fun _ => 0), (fun _ => 0))) ++ rk_w ad cL (fun _ _ => 0)) ++ [(mx, .inr (4, [.int 0, .long sd, .int 0, .ref ro, .ref pl, .ref vl, .int 11, .ref pa, .ref pr])), (ro, .inl (cI, 6, .inl (fun _ => 0))), (pl, .inl (cI, 120, .inl (fun _ => 0))), (vl, .inl (cI, 120, .inl (fun _ => 0))), (pa, .inl (cL, 240, .inr (.inl (fun _ => 0)))), (pr, .inl (cL, 48, .inr (.inl (fun _ => 0))))]) H := hP
  have hD : va_D (fun q : Nat => s.heap.size ≤ q) ((fq_w fx sd tb 0 (ad 0) cT cI tt (fun _ => (0, (fun _ => 0), (fun _ => 0))) ++ rk_w ad cL (fun _ _ => 0)) ++ [(mx, .inr (4, [.int 0, .long sd, .int 0, .ref ro, .ref pl, .ref vl, .int 11, .ref pa, .ref pr])), (ro, .inl (cI, 6, .inl (fun _ => 0))), (pl, .inl (cI, 120, .inl (fun _ => 0))), (vl, .inl (cI, 120, .inl (fun _ => 0))), (pa, .inl (cL, 240, .inr (.inl (fun _ => 0)))), (pr, .inl (cL, 48, .inr (.inl (fun _ => 0))))]) := hD
  refine lv_astore_n (lv' := [(2, .ref mx), (1, .ref fx), (0, .ref b)]) hx hb d_law_27 rfl hl (by decide) rfl (fun ls hl => ?_)
  refine lv_iconst (v := 1) hx hb d_law_28 (by decide) ?_
  refine va_newa (atype := .long) hx hb (ha _ wm_L_62) (ty := .long) rfl hK hP hD hS hA (N' := 1) (a0 := (1, .inr (.inl (fun _ => 0)))) (fun _ => rfl) (by decide) (by decide) (by decide) (Nat.le_of_ble_eq_true rfl) (Nat.le_of_ble_eq_true rfl) d_law_29 (fun ot c9 H hK9 hP hD hS => ?_)
  obtain rfl := ct_sameL hK9 0 3 rfl rfl
  refine lv_astore_n (lv' := [(3, .ref ot), (2, .ref mx), (1, .ref fx), (0, .ref b)]) hx hb d_law_31 rfl hl (by decide) rfl (fun ls hl => ?_)
  refine lv_iconst (v := 1) hx hb d_law_32 (by decide) ?_
  refine lv_istore (lv' := [(4, .int 1), (3, .ref ot), (2, .ref mx), (1, .ref fx), (0, .ref b)]) hx hb d_law_33 hl (by decide) rfl (fun ls hl => ?_)
  have hP9 : va_P (dC, dI) cl9 (lw_ws ot (fun _ => 0) mx 0 sd 0 ro pl vl 11 pa pr cL cI cT (fun _ => 0) (fun _ => 0) (fun _ => 0) (fun _ => 0) (fun _ => 0) fx tb ad tt 0 (fun _ => (0, (fun _ => 0), (fun _ => 0))) (fun _ _ => 0)) H := hP.sub [42, 36, 37, 38, 39, 40, 41, 0, 1, 2, 3, 4, 5, 6, 7, 8, 9, 10, 11, 12, 13, 14, 15, 16, 17, 18, 19, 20, 21, 22, 23, 24, 25, 26, 27, 28, 29, 30, 31, 32, 33, 34, 35] rfl
  have hD9 : va_D (fun q : Nat => s.heap.size ≤ q) (lw_ws ot (fun _ => 0) mx 0 sd 0 ro pl vl 11 pa pr cL cI cT (fun _ => 0) (fun _ => 0) (fun _ => 0) (fun _ => 0) (fun _ => 0) fx tb ad tt 0 (fun _ => (0, (fun _ => 0), (fun _ => 0))) (fun _ _ => 0)) := hD.sub [42, 36, 37, 38, 39, 40, 41, 0, 1, 2, 3, 4, 5, 6, 7, 8, 9, 10, 11, 12, 13, 14, 15, 16, 17, 18, 19, 20, 21, 22, 23, 24, 25, 26, 27, 28, 29, 30, 31, 32, 33, 34, 35] (by decide) rfl
  refine W.widen (k := 100) (n := 1000) (by omega) (by omega) ?_
  have hJ0 : lw_J 0 11 (fun _ => 0) (fun _ => 0) (fun _ => 0) 0 (fun _ => (0, (fun _ => 0), (fun _ => 0))) := ⟨by decide, rfl, by decide, fun _ _ => Nat.zero_le _, fun _ _ => rfl, fun _ h => absurd h (Nat.not_lt_zero _), fun _ h => absurd h (Nat.not_lt_zero _), fun _ h => absurd h (Nat.not_lt_zero _)⟩
  exact law_loop hL C0 hst hG hK hEQ_pw hEQ_lg hEQ_sn hEQ_cs hEQ_an hEQ_rt hEQ_dp hEQ_dw 513 1 100 1000 (by omega) (by omega) (by omega) (by omega) (fun _ => 0) 0 0 11 (fun _ => 0) (fun _ => 0) (fun _ => 0) (fun _ => 0) (fun _ => 0) 0 (fun _ => (0, (fun _ => 0), (fun _ => 0))) (fun _ _ => 0) hJ0 _ _ _ hP9 hD9 hS (lv_sub hl [4, 3, 2, 1, 0] rfl)
