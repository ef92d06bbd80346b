theorem and15 (v : Int32) : ∃ k : Nat, k < 16 ∧ v &&& 15 = nI k := by
  have h : (v &&& 15).toBitVec.toNat < 16 := by
    rw [Int32.toBitVec_and, BitVec.toNat_and]
    exact Nat.lt_of_le_of_lt Nat.and_le_right (show (15 : Int32).toBitVec.toNat < 16 by decide)
  refine ⟨(v &&& 15).toBitVec.toNat, h, ?_⟩
  rw [← Int32.toBitVec_inj]
  apply BitVec.eq_of_toNat_eq
  show _ = (BitVec.ofNat 32 (v &&& 15).toBitVec.toNat).toNat
  rw [BitVec.toNat_ofNat]
  generalize (v &&& 15).toBitVec.toNat = n at *
  omega
theorem lw_cmp {L i : Nat} (hL : L ≤ 2049) (hi : i ≤ 4000) : nI L - 4 < nI i ↔ ¬ i + 3 < L := by
  rw [i32_lt, show (4 : Int32) = nI 4 from rfl, pk_sub_toInt (by omega) (by omega), nI_toInt (by omega)]
  omega
set_option maxHeartbeats 4000000 in
set_option maxRecDepth 100000 in
/-- the law's loop -/
theorem law_loop {p : Program} {l : Launch} {e : Env} {s : State} {m : MethodId} {below : List Frame} {meth : Method} {c : Code} {dC : Nat → ClassId} {dI : Nat → Nat → Nat} {b L : Nat} {xs : Nat → Int32} {ot mx : Nat} {sd : Int64} {ro pl vl pa pr : Nat} {cL cI cT : ClassId} {fx tb : Nat} {ad tt : Nat → Nat} {s1 s2 s3 s4 tl th9 ta : Nat} (hL : L ≤ 2049) (C0 : lw_At p s m meth c b L xs) (hst : l.stackTraces = false) (hG : lg_G s1 s2 s3 s4 tl th9 ta (fun q : Nat => s.heap.size ≤ q) s s.heap) (hK : va_K (dC, dI) cl9 [(cL, .long), (cT, .object "HouseFunctions$Table"), (cI, .int)] s) (hEQ_pw : EQ_pw) (hEQ_lg : EQ_lg) (hEQ_sn : EQ_sn) (hEQ_cs : EQ_cs) (hEQ_an : EQ_an) (hEQ_rt : EQ_rt) (hEQ_dp : EQ_dp) (hEQ_dw : EQ_dw) : ∀ (N i cells slots : Nat), L ≤ i + 3 + 4 * N → i ≤ L + 4 → cells + 4 * N ≤ 601024 → slots + 24 * N ≤ 7293000 → ∀ (o : Nat → Int64) (tw : Int32) (n : Nat) (f : Nat) (cc : Nat → Nat) (P9 : Nat → Int32) (V9 : Nat → Int32) (g : Nat → Int64) (p9 : Nat → Int64) (tc : Nat) (T : fq_T) (u : rk_U), lw_J n f cc P9 V9 tc T → ∀ (H : Heap) (locs : List Loc) (ls : Array Slot), va_P (dC, dI) cl9 (lw_ws ot o mx tw sd n ro pl vl f pa pr cL cI cT cc P9 V9 g p9 fx tb ad tt tc T u) H → va_D (fun q : Nat => s.heap.size ≤ q) (lw_ws ot o mx tw sd n ro pl vl f pa pr cL cI cT cc P9 V9 g p9 fx tb ad tt tc T u) → va_S (fun q : Nat => s.heap.size ≤ q) s.heap H locs → lv_has ls 8 [(0, .ref b), (1, .ref fx), (2, .ref mx), (3, .ref ot), (4, .int (nI i))] → W p l e room_1 s m #[Value.ref b] below meth c H locs cells slots (lw_Z below #[Value.ref b] s) (F0 m 35 ls []) := by
  obtain ⟨hx, hb, hr, hml, hown, hts, hX, hbl, hlocks, hgv⟩ := id C0
  have hA : ∀ q : Nat, s.heap.size ≤ q → (fun q : Nat => s.heap.size ≤ q) q := fun _ h => h
  have hbA : ¬ (fun q : Nat => s.heap.size ≤ q) b := Nat.not_le.mpr hbl
  have ha : ∀ w ∈ al_L, w.before #[Value.ref b] s = true := fun w h => hts w (am_L w h)
  intro N
  induction N with
  | zero =>
    intro i cells slots hN hiL hc hs o tw n f cc P9 V9 g p9 tc T u hJ H locs ls hP hD hS hl
    refine lv_iload hx hb d_law_35 (lv_at hl 4 rfl) ?_
    refine lv_aload_n hx hb d_law_37 rfl (lv_at hl 0 rfl) ?_
    refine va_slen hx hb hX hbl hbA hS d_law_38 ?_
    refine lv_iconst (v := 4) hx hb d_law_39 (by decide) ?_
    refine lv_isub hx hb d_law_40 ?_
    refine lv_icmp_gt (tgt := 1001) hx hb d_law_41 (by decide) (fun hq => ?_) (fun hq => ?_)
    · refine lv_iconst (v := 1) hx hb d_law_1001 (by decide) ?_
      refine va_forget (fun q hq => hS.2.2 q hq) ?_
      refine W.widen (k := 601024) (n := 7293000) (by omega) (by omega) ?_
      exact lw_ret hx hb hr hlocks d_law_1002
    · have hi : i + 3 < L := Decidable.byContradiction (fun q => hq ((lw_cmp hL (by omega)).mpr q))
      exact absurd hi (by omega)
  | succ N ih =>
    intro i cells slots hN hiL hc hs o tw n f cc P9 V9 g p9 tc T u hJ H locs ls hP hD hS hl
    refine lv_iload hx hb d_law_35 (lv_at hl 4 rfl) ?_
    refine lv_aload_n hx hb d_law_37 rfl (lv_at hl 0 rfl) ?_
    refine va_slen hx hb hX hbl hbA hS d_law_38 ?_
    refine lv_iconst (v := 4) hx hb d_law_39 (by decide) ?_
    refine lv_isub hx hb d_law_40 ?_
    refine lv_icmp_gt (tgt := 1001) hx hb d_law_41 (by decide) (fun hq => ?_) (fun hq => ?_)
    · refine lv_iconst (v := 1) hx hb d_law_1001 (by decide) ?_
      refine va_forget (fun q hq => hS.2.2 q hq) ?_
      refine W.widen (k := 601024) (n := 7293000) (by omega) (by omega) ?_
      exact lw_ret hx hb hr hlocks d_law_1002
    · have hi : i + 3 < L := Decidable.byContradiction (fun q => hq ((lw_cmp hL (by omega)).mpr q))
      refine lv_aload_n hx hb d_law_44 rfl (lv_at hl 0 rfl) ?_
      refine lv_iload hx hb d_law_45 (lv_at hl 4 rfl) ?_
      refine lv_topi (fun x_1 ex_1 => ?_)
      obtain rfl : x_1 = nI i := ex_1
      refine va_sld hx hb hX hbl hbA hS (vp_in_nI (show i < L by omega) (by omega)) d_law_47 ?_
      refine lv_topi (fun y_2 ey_2 => ?_)
      obtain rfl : y_2 = xs (i) := ey_2.trans (congrArg xs (nI_clamp (by omega)))
      refine lv_bipush (v := 15) hx hb d_law_48 (by decide) ?_
      refine lv_iand hx hb d_law_50 ?_
      obtain ⟨k, hk, ek⟩ := and15 (xs i)
      rw [ek]
      have hN9 : ∀ (o : Nat → Int64) (tw : Int32) (n : Nat) (f : Nat) (cc : Nat → Nat) (P9 : Nat → Int32) (V9 : Nat → Int32) (g : Nat → Int64) (p9 : Nat → Int64) (tc : Nat) (T : fq_T) (u : rk_U), lw_J n f cc P9 V9 tc T → ∀ (H : Heap) (locs : List Loc) (ls : Array Slot), va_P (dC, dI) cl9 (lw_ws ot o mx tw sd n ro pl vl f pa pr cL cI cT cc P9 V9 g p9 fx tb ad tt tc T u) H → va_D (fun q : Nat => s.heap.size ≤ q) (lw_ws ot o mx tw sd n ro pl vl f pa pr cL cI cT cc P9 V9 g p9 fx tb ad tt tc T u) → va_S (fun q : Nat => s.heap.size ≤ q) s.heap H locs → lv_has ls 8 [(0, .ref b), (1, .ref fx), (2, .ref mx), (3, .ref ot), (4, .int (nI i))] → W p l e room_1 s m #[Value.ref b] below meth c H locs (cells + 4) (slots + 24) (lw_Z below #[Value.ref b] s) (F0 m 995 ls []) := by
        intro o tw n f cc P9 V9 g p9 tc T u hJ H locs ls hP hD hS hl
        refine lv_iinc (v := nI (i + 4)) (lv' := [(4, .int (nI (i + 4))), (0, .ref b), (1, .ref fx), (2, .ref mx), (3, .ref ot)]) hx hb d_law_995 hl (k := 4) rfl (by exact nI_add i 4) (by decide) rfl (fun ls hl => ?_)
        refine lv_goto (tgt := 35) hx hb d_law_998 (by decide) ?_
        exact ih (i + 4) (cells + 4) (slots + 24) (by omega) (by omega) (by omega) (by omega) o tw n f cc P9 V9 g p9 tc T u hJ _ _ _ hP hD hS (lv_sub hl [1, 2, 3, 4, 0] rfl)
      rcases (show k = 0 ∨ k = 1 ∨ k = 2 ∨ k = 3 ∨ k = 4 ∨ k = 5 ∨ k = 6 ∨ k = 7 ∨ k = 8 ∨ k = 9 ∨ k = 10 ∨ k = 11 ∨ k = 12 ∨ k = 13 ∨ k = 14 ∨ k = 15 by omega) with rfl | rfl | rfl | rfl | rfl | rfl | rfl | rfl | rfl | rfl | rfl | rfl | rfl | rfl | rfl | rfl
      · refine lv_tableIn (tgt := 116) hx hb d_law_51 (by decide) (by decide) (off := 65) (by decide) (by decide) ?_
        exact ca_power hL C0 hst hG hK hEQ_pw hi (by omega) (by omega) hN9 o tw n f cc P9 V9 g p9 tc T u hJ _ _ _ hP hD hS (lv_sub hl [0, 1, 2, 3, 4] rfl)
      · refine lv_tableIn (tgt := 171) hx hb d_law_51 (by decide) (by decide) (off := 120) (by decide) (by decide) ?_
        exact ca_logarithm hL C0 hst hG hK hEQ_lg hi (by omega) (by omega) hN9 o tw n f cc P9 V9 g p9 tc T u hJ _ _ _ hP hD hS (lv_sub hl [0, 1, 2, 3, 4] rfl)
      · refine lv_tableIn (tgt := 258) hx hb d_law_51 (by decide) (by decide) (off := 207) (by decide) (by decide) ?_
        exact ca_sine hL C0 hst hG hK hEQ_sn hi (by omega) (by omega) hN9 o tw n f cc P9 V9 g p9 tc T u hJ _ _ _ hP hD hS (lv_sub hl [0, 1, 2, 3, 4] rfl)
      · refine lv_tableIn (tgt := 313) hx hb d_law_51 (by decide) (by decide) (off := 262) (by decide) (by decide) ?_
        exact ca_cosine hL C0 hst hG hK hEQ_cs hi (by omega) (by omega) hN9 o tw n f cc P9 V9 g p9 tc T u hJ _ _ _ hP hD hS (lv_sub hl [0, 1, 2, 3, 4] rfl)
      · refine lv_tableIn (tgt := 368) hx hb d_law_51 (by decide) (by decide) (off := 317) (by decide) (by decide) ?_
        exact ca_angle hL C0 hst hG hK hEQ_an hi (by omega) (by omega) hN9 o tw n f cc P9 V9 g p9 tc T u hJ _ _ _ hP hD hS (lv_sub hl [0, 1, 2, 3, 4] rfl)
      · refine lv_tableIn (tgt := 435) hx hb d_law_51 (by decide) (by decide) (off := 384) (by decide) (by decide) ?_
        exact ca_root hL C0 hst hG hK hEQ_rt hi (by omega) (by omega) hN9 o tw n f cc P9 V9 g p9 tc T u hJ _ _ _ hP hD hS (lv_sub hl [0, 1, 2, 3, 4] rfl)
      · refine lv_tableIn (tgt := 534) hx hb d_law_51 (by decide) (by decide) (off := 483) (by decide) (by decide) ?_
        exact ca_damp hL C0 hst hG hK hEQ_dp hi (by omega) (by omega) hN9 o tw n f cc P9 V9 g p9 tc T u hJ _ _ _ hP hD hS (lv_sub hl [0, 1, 2, 3, 4] rfl)
      · refine lv_tableIn (tgt := 601) hx hb d_law_51 (by decide) (by decide) (off := 550) (by decide) (by decide) ?_
        exact ca_dew hL C0 hst hG hK hEQ_dw hi (by omega) (by omega) hN9 o tw n f cc P9 V9 g p9 tc T u hJ _ _ _ hP hD hS (lv_sub hl [0, 1, 2, 3, 4] rfl)
      · refine lv_tableIn (tgt := 656) hx hb d_law_51 (by decide) (by decide) (off := 605) (by decide) (by decide) ?_
        exact ca_table hL C0 hst hG hK hi (by omega) (by omega) hN9 o tw n f cc P9 V9 g p9 tc T u hJ _ _ _ hP hD hS (lv_sub hl [0, 1, 2, 3, 4] rfl)
      · refine lv_tableIn (tgt := 700) hx hb d_law_51 (by decide) (by decide) (off := 649) (by decide) (by decide) ?_
        exact ca_row hL C0 hst hG hK hi (by omega) (by omega) hN9 o tw n f cc P9 V9 g p9 tc T u hJ _ _ _ hP hD hS (lv_sub hl [0, 1, 2, 3, 4] rfl)
      · refine lv_tableIn (tgt := 780) hx hb d_law_51 (by decide) (by decide) (off := 729) (by decide) (by decide) ?_
        exact ca_at hL C0 hst hG hK hi (by omega) (by omega) hN9 o tw n f cc P9 V9 g p9 tc T u hJ _ _ _ hP hD hS (lv_sub hl [0, 1, 2, 3, 4] rfl)
      · refine lv_tableIn (tgt := 847) hx hb d_law_51 (by decide) (by decide) (off := 796) (by decide) (by decide) ?_
        exact ca_drawn hL C0 hst hG hK hi (by omega) (by omega) hN9 o tw n f cc P9 V9 g p9 tc T u hJ _ _ _ hP hD hS (lv_sub hl [0, 1, 2, 3, 4] rfl)
      · refine lv_tableIn (tgt := 916) hx hb d_law_51 (by decide) (by decide) (off := 865) (by decide) (by decide) ?_
        exact ca_join hL C0 hst hG hK hi (by omega) (by omega) hN9 o tw n f cc P9 V9 g p9 tc T u hJ _ _ _ hP hD hS (lv_sub hl [0, 1, 2, 3, 4] rfl)
      · refine lv_tableOut (tgt := 995) hx hb d_law_51 (Or.inr (by decide)) (by decide) ?_
        refine W.widen (k := cells + 4) (n := slots + 24) (by omega) (by omega) ?_
        exact hN9 o tw n f cc P9 V9 g p9 tc T u hJ _ _ _ hP hD hS (lv_sub hl [0, 1, 2, 3, 4] rfl)
      · refine lv_tableOut (tgt := 995) hx hb d_law_51 (Or.inr (by decide)) (by decide) ?_
        refine W.widen (k := cells + 4) (n := slots + 24) (by omega) (by omega) ?_
        exact hN9 o tw n f cc P9 V9 g p9 tc T u hJ _ _ _ hP hD hS (lv_sub hl [0, 1, 2, 3, 4] rfl)
      · refine lv_tableOut (tgt := 995) hx hb d_law_51 (Or.inr (by decide)) (by decide) ?_
        refine W.widen (k := cells + 4) (n := slots + 24) (by omega) (by omega) ?_
        exact hN9 o tw n f cc P9 V9 g p9 tc T u hJ _ _ _ hP hD hS (lv_sub hl [0, 1, 2, 3, 4] rfl)
