def kc_L : Nat → Int64 := fun j => ([1089684262, 66254511, 3387143064, 3520035243, 2977044471, 0, 0] : List Int64).getD j 0
def kc_H : Nat → Int64 := fun j => ([1376033809, 28850594, 2307704087, 1121027177, 2451551556, 1, 0] : List Int64).getD j 0
def kc_A : Nat → Int64 := fun j => ([0, 0, 0, 0, 0, 0, 0, 1788865088, 2112390649, 1534191549, 1493285573, 1052175346, 0, 0, 3070888643, 1578976897, 3086099190, 2263694754, 1991351317, 0, 0, 3824191113, 1165864094, 430473002, 888604964, 2763816217, 0, 0, 688016904, 2161908945, 3301335691, 560513588, 3373259426, 0, 0] : List Int64).getD j 0
def kg_G (tl th ta : Nat) : ct_GT := fun A U H =>
  (va_Z "HouseFunctions$Reckoner" "LOG_OF_TWO" "[J" (.ref tl) A U H ∧ va_T .long tl 7 (fun j => .long (kc_L j)) A U H) ∧
  (va_Z "HouseFunctions$Reckoner" "HALF_PI" "[J" (.ref th) A U H ∧ va_T .long th 7 (fun j => .long (kc_H j)) A U H) ∧
  (va_Z "HouseFunctions$Reckoner" "ANGLES_BY_QUARTER_TANGENT" "[J" (.ref ta) A U H ∧ va_T .long ta 35 (fun j => .long (kc_A j)) A U H)
theorem kg_Gok (tl th ta : Nat) : ct_Gok (kg_G tl th ta) :=
  ⟨fun _ _ _ _ h9 q => have h := ct_alk h9; ⟨⟨va_Z.moved h q.1.1, va_T.moved h q.1.2⟩, ⟨va_Z.moved h q.2.1.1, va_T.moved h q.2.1.2⟩, ⟨va_Z.moved h q.2.2.1, va_T.moved h q.2.2.2⟩⟩,
   fun _ _ _ _ h q => ⟨⟨va_Z.kept q.1.1 h, va_T.kept q.1.2 h⟩, ⟨va_Z.kept q.2.1.1 h, va_T.kept q.2.1.2 h⟩, ⟨va_Z.kept q.2.2.1 h, va_T.kept q.2.2.2 h⟩⟩,
   fun _ _ _ _ h q => ⟨⟨va_Z.narrow q.1.1 h, va_T.narrow q.1.2 h⟩, ⟨va_Z.narrow q.2.1.1 h, va_T.narrow q.2.1.2 h⟩, ⟨va_Z.narrow q.2.2.1 h, va_T.narrow q.2.2.2 h⟩⟩⟩
def tl_q (be : Int64) : Nat → Int64
  | 0 => be
  | i + 1 => tl_q be i * 2
def tl_d (d : Int32) : Nat → Int32
  | 0 => d
  | i + 1 => tl_d d i + (-1)
def tl_n1 (ab be : Int64) : Nat := rk_stop (fun i => if 5 * ab ≤ 7 * tl_q be i then 1 else 0) 64 0
def tl_n2 (ab be : Int64) : Nat := rk_stop (fun i => if 7 * be < 10 * tl_q ab i then 1 else 0) 64 0
def tl_Q (ab be : Int64) : Int64 := tl_q be (tl_n1 ab be)
def tl_P (ab be : Int64) : Int64 := tl_q ab (tl_n2 ab (tl_Q ab be))
def tl_D (ab be : Int64) : Int32 := tl_d (nI (tl_n1 ab be)) (tl_n2 ab (tl_Q ab be))
def rk_log0 (p q : Int64) (u : rk_U) : rk_U := rk_scl 0 2 (rk_odd 0 (rk_ratio 0 (pu_abl (p - q)) (p + q) u))
def rk_log1 (p q : Int64) (u : rk_U) : rk_U := if q ≤ p then rk_log0 p q u else rk_neg 0 (rk_log0 p q u)
def rk_log2 (d : Int32) (u : rk_U) : rk_U := rk_as 0 3 (if 0 ≤ d then 0 else 1) (rk_scl 3 (pu_abi d).toInt64 (rk_lim 3 kc_L 7 0 u))
def rk_log (ab be : Int64) (u : rk_U) : rk_U := rk_log2 (tl_D ab be) (rk_log1 (tl_P ab be) (tl_Q ab be) u)
set_option maxHeartbeats 1000000 in
set_option maxRecDepth 100000 in
/-- a logarithm's halvings -/
theorem lp_K_log1 {p : Program} {l : Launch} {e : Env} {R : Room} {s : State} {m : MethodId} {args : Array Value} {below : List Frame} {meth : Method} {c : Code} {Q : State → Prop} {A : Nat → Prop} {cells slots : Nat} {dC : Nat → ClassId} {dI : Nat → Nat → Nat} {ad : Nat → Nat} {cL : ClassId} {u : rk_U} {ab : Int64} {be : Int64} (hF : ct_F p s m meth c b_K_takeLog none 11 w_K_takeLog y_K_takeLog args) (hA : ∀ q, s.heap.size ≤ q → A q) (hK : va_K (dC, dI) cl9 [(cL, .long)] s) (hRf : 3 ≤ R.frames) (hRl : 77 ≤ R.locals) (hRc : cells ≤ R.cells) (hRs : slots ≤ R.slots) 
    (K : ∀ (H : Heap) (locs : List Loc) (ls : Array Slot), va_P (dC, dI) cl9 (rk_w ad cL u) H → va_D A (rk_w ad cL u) → va_S A s.heap H locs → lv_has ls 11 [(0, .ref (ad 0)), (5, .long ab), (7, .long (tl_q be (rk_stop (fun i => if 5 * ab ≤ 7 * tl_q be i then 1 else 0) 64 0))), (9, .int (nI (rk_stop (fun i => if 5 * ab ≤ 7 * tl_q be i then 1 else 0) 64 0)))] → W p l e R s m args below meth c H locs cells slots Q (F0 m 52 ls [])) :
    ∀ (n9 i : Nat), i + n9 = 64 → (rk_stop (fun i => if 5 * ab ≤ 7 * tl_q be i then 1 else 0) 64 0 = rk_stop (fun i => if 5 * ab ≤ 7 * tl_q be i then 1 else 0) n9 i) → ∀ (H : Heap) (locs : List Loc) (ls : Array Slot), va_P (dC, dI) cl9 (rk_w ad cL u) H → va_D A (rk_w ad cL u) → va_S A s.heap H locs → lv_has ls 11 [(0, .ref (ad 0)), (5, .long ab), (7, .long (tl_q be i)), (9, .int (nI i)), (10, .int (nI i))] → W p l e R s m args below meth c H locs cells slots Q (F0 m 12 ls []) := by
  obtain ⟨hx, hb, hr, hml, hts, hown, hlocks, hnm⟩ := id hF
  have hown : s.vm.findClass R_K = some m.cls := hown
  have ha : ∀ w ∈ al_K, w.before args s = true := fun w h => hts w (List.mem_cons_of_mem _ h)
  intro n9
  induction n9 with
  | zero =>
    intro i hi hinv H locs ls hP hD hS hl
    obtain rfl : 64 = i := by omega
    refine lv_iload hx hb d_K_takeLog_12 (lv_at hl 4 rfl) ?_
    refine lv_bipush (v := 64) hx hb d_K_takeLog_14 (by decide) ?_
    refine lv_icmp_ge (tgt := 52) hx hb d_K_takeLog_16 (by decide) (fun hc => ?_) (fun hc => ?_)
    · have e9 : rk_stop (fun i => if 5 * ab ≤ 7 * tl_q be i then 1 else 0) 64 0 = 64 := hinv
      exact K _ _ _ hP hD hS (by rw [e9]; exact lv_sub hl [0, 1, 2, 3] rfl)
    · exact absurd (show nI 64 ≤ nI 64 from nI_le (by omega) (by omega)) hc
  | succ n9 ih =>
    intro i hi hinv H locs ls hP hD hS hl
    have hlt : i < 64 := by omega
    refine lv_iload hx hb d_K_takeLog_12 (lv_at hl 4 rfl) ?_
    refine lv_bipush (v := 64) hx hb d_K_takeLog_14 (by decide) ?_
    refine lv_icmp_ge (tgt := 52) hx hb d_K_takeLog_16 (by decide) (fun hc => ?_) (fun hc => ?_)
    · exact absurd (show nI 64 ≤ nI i from hc) (nI_ge (by omega) (by omega))
    · refine lv_ldc2 (v := 5) hx hb hown (ha _ wm_K_33) d_K_takeLog_19 ?_
      refine lv_lload hx hb d_K_takeLog_22 (lv_at hl 1 rfl) ?_
      refine lv_lmul hx hb d_K_takeLog_24 ?_
      refine lv_ldc2 (v := 7) hx hb hown (ha _ wm_K_34) d_K_takeLog_25 ?_
      refine lv_lload hx hb d_K_takeLog_28 (lv_at hl 2 rfl) ?_
      refine lv_lmul hx hb d_K_takeLog_30 ?_
      refine ct_jle (tgt := 52) hx hb d_K_takeLog_31 d_K_takeLog_32 (by decide) (fun hz => ?_) (fun hz => ?_)
      · have e9 : rk_stop (fun i => if 5 * ab ≤ 7 * tl_q be i then 1 else 0) 64 0 = i := hinv.trans (if_neg (fun q => absurd ((if_pos hz).symm.trans q) (by decide)))
        exact K _ _ _ hP hD hS (by rw [e9]; exact lv_sub hl [0, 1, 2, 3] rfl)
      · refine lv_lload hx hb d_K_takeLog_35 (lv_at hl 2 rfl) ?_
        refine lv_ldc2 (v := 2) hx hb hown (ha _ wm_K_35) d_K_takeLog_37 ?_
        refine lv_lmul hx hb d_K_takeLog_40 ?_
        refine lv_lstore (lv' := [(7, .long ((tl_q be i) * 2)), (0, .ref (ad 0)), (5, .long ab), (9, .int (nI i)), (10, .int (nI i))]) hx hb d_K_takeLog_41 hl (by decide) rfl (fun ls hl => ?_)
        refine lv_iinc (v := (nI (i + 1))) (lv' := [(9, .int (nI (i + 1))), (7, .long ((tl_q be i) * 2)), (0, .ref (ad 0)), (5, .long ab), (10, .int (nI i))]) hx hb d_K_takeLog_43 hl (k := 3) rfl (by exact nI_1 i) (by decide) rfl (fun ls hl => ?_)
        refine lv_iinc (v := (nI (i + 1))) (lv' := [(10, .int (nI (i + 1))), (9, .int (nI (i + 1))), (7, .long ((tl_q be i) * 2)), (0, .ref (ad 0)), (5, .long ab)]) hx hb d_K_takeLog_46 hl (k := 4) rfl (by exact nI_1 i) (by decide) rfl (fun ls hl => ?_)
        refine lv_goto (tgt := 12) hx hb d_K_takeLog_49 (by decide) ?_
        exact ih (i + 1) (by omega) (hinv.trans (if_pos (if_neg hz))) _ _ _ hP hD hS (lv_sub hl [3, 4, 2, 1, 0] rfl)
set_option maxHeartbeats 1000000 in
set_option maxRecDepth 100000 in
/-- a logarithm's halvings -/
theorem lp_K_log2 {p : Program} {l : Launch} {e : Env} {R : Room} {s : State} {m : MethodId} {args : Array Value} {below : List Frame} {meth : Method} {c : Code} {Q : State → Prop} {A : Nat → Prop} {cells slots : Nat} {dC : Nat → ClassId} {dI : Nat → Nat → Nat} {ad : Nat → Nat} {cL : ClassId} {u : rk_U} {ab : Int64} {be : Int64} {d9 : Int32} (hF : ct_F p s m meth c b_K_takeLog none 11 w_K_takeLog y_K_takeLog args) (hA : ∀ q, s.heap.size ≤ q → A q) (hK : va_K (dC, dI) cl9 [(cL, .long)] s) (hRf : 3 ≤ R.frames) (hRl : 77 ≤ R.locals) (hRc : cells ≤ R.cells) (hRs : slots ≤ R.slots) 
    (K : ∀ (H : Heap) (locs : List Loc) (ls : Array Slot), va_P (dC, dI) cl9 (rk_w ad cL u) H → va_D A (rk_w ad cL u) → va_S A s.heap H locs → lv_has ls 11 [(0, .ref (ad 0)), (5, .long (tl_q ab (rk_stop (fun i => if 7 * be < 10 * tl_q ab i then 1 else 0) 64 0))), (7, .long be), (9, .int (tl_d d9 (rk_stop (fun i => if 7 * be < 10 * tl_q ab i then 1 else 0) 64 0)))] → W p l e R s m args below meth c H locs cells slots Q (F0 m 95 ls [])) :
    ∀ (n9 i : Nat), i + n9 = 64 → (rk_stop (fun i => if 7 * be < 10 * tl_q ab i then 1 else 0) 64 0 = rk_stop (fun i => if 7 * be < 10 * tl_q ab i then 1 else 0) n9 i) → ∀ (H : Heap) (locs : List Loc) (ls : Array Slot), va_P (dC, dI) cl9 (rk_w ad cL u) H → va_D A (rk_w ad cL u) → va_S A s.heap H locs → lv_has ls 11 [(0, .ref (ad 0)), (5, .long (tl_q ab i)), (7, .long be), (9, .int (tl_d d9 i)), (10, .int (nI i))] → W p l e R s m args below meth c H locs cells slots Q (F0 m 55 ls []) := by
  obtain ⟨hx, hb, hr, hml, hts, hown, hlocks, hnm⟩ := id hF
  have hown : s.vm.findClass R_K = some m.cls := hown
  have ha : ∀ w ∈ al_K, w.before args s = true := fun w h => hts w (List.mem_cons_of_mem _ h)
  intro n9
  induction n9 with
  | zero =>
    intro i hi hinv H locs ls hP hD hS hl
    obtain rfl : 64 = i := by omega
    refine lv_iload hx hb d_K_takeLog_55 (lv_at hl 4 rfl) ?_
    refine lv_bipush (v := 64) hx hb d_K_takeLog_57 (by decide) ?_
    refine lv_icmp_ge (tgt := 95) hx hb d_K_takeLog_59 (by decide) (fun hc => ?_) (fun hc => ?_)
    · have e9 : rk_stop (fun i => if 7 * be < 10 * tl_q ab i then 1 else 0) 64 0 = 64 := hinv
      exact K _ _ _ hP hD hS (by rw [e9]; exact lv_sub hl [0, 1, 2, 3] rfl)
    · exact absurd (show nI 64 ≤ nI 64 from nI_le (by omega) (by omega)) hc
  | succ n9 ih =>
    intro i hi hinv H locs ls hP hD hS hl
    have hlt : i < 64 := by omega
    refine lv_iload hx hb d_K_takeLog_55 (lv_at hl 4 rfl) ?_
    refine lv_bipush (v := 64) hx hb d_K_takeLog_57 (by decide) ?_
    refine lv_icmp_ge (tgt := 95) hx hb d_K_takeLog_59 (by decide) (fun hc => ?_) (fun hc => ?_)
    · exact absurd (show nI 64 ≤ nI i from hc) (nI_ge (by omega) (by omega))
    · refine lv_ldc2 (v := 10) hx hb hown (ha _ wm_K_36) d_K_takeLog_62 ?_
      refine lv_lload hx hb d_K_takeLog_65 (lv_at hl 1 rfl) ?_
      refine lv_lmul hx hb d_K_takeLog_67 ?_
      refine lv_ldc2 (v := 7) hx hb hown (ha _ wm_K_34) d_K_takeLog_68 ?_
      refine lv_lload hx hb d_K_takeLog_71 (lv_at hl 2 rfl) ?_
      refine lv_lmul hx hb d_K_takeLog_73 ?_
      refine ct_jgt (tgt := 95) hx hb d_K_takeLog_74 d_K_takeLog_75 (by decide) (fun hz => ?_) (fun hz => ?_)
      · have e9 : rk_stop (fun i => if 7 * be < 10 * tl_q ab i then 1 else 0) 64 0 = i := hinv.trans (if_neg (fun q => absurd ((if_pos hz).symm.trans q) (by decide)))
        exact K _ _ _ hP hD hS (by rw [e9]; exact lv_sub hl [0, 1, 2, 3] rfl)
      · refine lv_lload hx hb d_K_takeLog_78 (lv_at hl 1 rfl) ?_
        refine lv_ldc2 (v := 2) hx hb hown (ha _ wm_K_35) d_K_takeLog_80 ?_
        refine lv_lmul hx hb d_K_takeLog_83 ?_
        refine lv_lstore (lv' := [(5, .long ((tl_q ab i) * 2)), (0, .ref (ad 0)), (7, .long be), (9, .int (tl_d d9 i)), (10, .int (nI i))]) hx hb d_K_takeLog_84 hl (by decide) rfl (fun ls hl => ?_)
        refine lv_iinc (v := ((tl_d d9 i) + (-1))) (lv' := [(9, .int ((tl_d d9 i) + (-1))), (5, .long ((tl_q ab i) * 2)), (0, .ref (ad 0)), (7, .long be), (10, .int (nI i))]) hx hb d_K_takeLog_86 hl (k := 3) rfl (rfl) (by decide) rfl (fun ls hl => ?_)
        refine lv_iinc (v := (nI (i + 1))) (lv' := [(10, .int (nI (i + 1))), (9, .int ((tl_d d9 i) + (-1))), (5, .long ((tl_q ab i) * 2)), (0, .ref (ad 0)), (7, .long be)]) hx hb d_K_takeLog_89 hl (k := 4) rfl (by exact nI_1 i) (by decide) rfl (fun ls hl => ?_)
        refine lv_goto (tgt := 55) hx hb d_K_takeLog_92 (by decide) ?_
        exact ih (i + 1) (by omega) (hinv.trans (if_pos (if_neg hz))) _ _ _ hP hD hS (lv_sub hl [3, 2, 4, 1, 0] rfl)
set_option maxHeartbeats 1000000 in
set_option maxRecDepth 100000 in
/-- value becomes the logarithm of ab / be -/
theorem c_K_takeLog (l : Launch) (dC : Nat → ClassId) (dI : Nat → Nat → Nat) (ad : Nat → Nat) (cL : ClassId) (u : rk_U) (ab be : Int64) (tl th ta : Nat) (sz : Nat) : ct_V l y_K_takeLog w_K_takeLog { frames := 4, cells := 0, slots := 0, locals := 99 } (dC, dI) cl9 [(cL, .long)] (kg_G tl th ta) [.ref (ad 0), .long ab, .long be] (rk_w ad cL u) sz (S := rk_U) (fun u' : rk_U => u' = rk_log ab be u) (fun _ : rk_U => [(cL, .long)]) (fun u' : rk_U => rk_w ad cL u') 0 0 := by
  refine ct_of (Qf := fun A => va_Qv (fun u' : rk_U => u' = rk_log ab be u) (ct_B (S := rk_U) (dC, dI) cl9 (fun _ : rk_U => [(cL, .long)]) A (fun u' : rk_U => rk_w ad cL u')) A) (cc := b_K_takeLog) (maxL := 11) (ret := none) (by decide) rfl (Nat.le_of_ble_eq_true rfl) ?_
  intro p e s m below meth c A ls hF hA hP hK hD hG hS hl
  obtain ⟨hx, hb, hr, hml, hts, hown, hlocks, hnm⟩ := id hF
  have hown : s.vm.findClass R_K = some m.cls := hown
  have ha : ∀ w ∈ al_K, w.before [.ref (ad 0), .long ab, .long be].toArray s = true := fun w h => hts w (List.mem_cons_of_mem _ h)
  have hl : lv_has ls 11 [(0, .ref (ad 0)), (1, .long ab), (3, .long be)] := hl
  refine lv_lload_n hx hb d_K_takeLog_0 rfl (lv_at hl 1 rfl) ?_
  refine lv_lstore (lv' := [(5, .long ab), (0, .ref (ad 0)), (1, .long ab), (3, .long be)]) hx hb d_K_takeLog_1 hl (by decide) rfl (fun ls hl => ?_)
  refine lv_lload_n hx hb d_K_takeLog_3 rfl (lv_at hl 3 rfl) ?_
  refine lv_lstore (lv' := [(7, .long be), (5, .long ab), (0, .ref (ad 0)), (1, .long ab), (3, .long be)]) hx hb d_K_takeLog_4 hl (by decide) rfl (fun ls hl => ?_)
  refine lv_iconst (v := 0) hx hb d_K_takeLog_6 (by decide) ?_
  refine lv_istore (lv' := [(9, .int 0), (7, .long be), (5, .long ab), (0, .ref (ad 0)), (1, .long ab), (3, .long be)]) hx hb d_K_takeLog_7 hl (by decide) rfl (fun ls hl => ?_)
  refine lv_iconst (v := 0) hx hb d_K_takeLog_9 (by decide) ?_
  refine lv_istore (lv' := [(10, .int 0), (9, .int 0), (7, .long be), (5, .long ab), (0, .ref (ad 0)), (1, .long ab), (3, .long be)]) hx hb d_K_takeLog_10 hl (by decide) rfl (fun ls hl => ?_)
  refine lp_K_log1 (ad := ad) (cL := cL) (u := u) (ab := ab) (be := be) hF hA hK (Nat.le_of_ble_eq_true rfl) (Nat.le_of_ble_eq_true rfl) (Nat.le_of_ble_eq_true rfl) (Nat.le_of_ble_eq_true rfl) (fun H locs ls hP hD hS hl => ?_) 64 0 (by omega) rfl _ _ _ hP hD hS (lv_sub hl [4, 3, 2, 1, 0] rfl)
  have hl : lv_has ls 11 [(0, .ref (ad 0)), (5, .long ab), (7, .long (tl_Q ab be)), (9, .int (nI (tl_n1 ab be)))] := hl
  refine lv_iconst (v := 0) hx hb d_K_takeLog_52 (by decide) ?_
  refine lv_istore (lv' := [(10, .int 0), (0, .ref (ad 0)), (5, .long ab), (7, .long (tl_Q ab be)), (9, .int (nI (tl_n1 ab be)))]) hx hb d_K_takeLog_53 hl (by decide) rfl (fun ls hl => ?_)
  refine lp_K_log2 (ad := ad) (cL := cL) (u := u) (ab := ab) (be := tl_Q ab be) (d9 := nI (tl_n1 ab be)) hF hA hK (Nat.le_of_ble_eq_true rfl) (Nat.le_of_ble_eq_true rfl) (Nat.le_of_ble_eq_true rfl) (Nat.le_of_ble_eq_true rfl) (fun H locs ls hP hD hS hl => ?_) 64 0 (by omega) rfl _ _ _ hP hD hS (lv_sub hl [1, 2, 3, 4, 0] rfl)
  have hl : lv_has ls 11 [(0, .ref (ad 0)), (5, .long (tl_P ab be)), (7, .long (tl_Q ab be)), (9, .int (tl_D ab be))] := hl
  refine lv_aload_n hx hb d_K_takeLog_95 rfl (lv_at hl 0 rfl) ?_
  refine va_get (D := (dC, dI)) (ci := 1) (v := .ref (ad 1)) (C := R_K) (T := F_K) (N := 5) hx hb ha ui_K hown hK hP 0 rfl rfl 0 (by decide) (ha _ wm_K_6) (fun _ h9 => h9) rfl d_K_takeLog_96 ?_
  refine lv_lload hx hb d_K_takeLog_99 (lv_at hl 1 rfl) ?_
  refine lv_lload hx hb d_K_takeLog_101 (lv_at hl 2 rfl) ?_
  refine lv_lsub hx hb d_K_takeLog_103 ?_
  refine cs_calll (va_runS (As := [.long ((tl_P ab be) - (tl_Q ab be))]) (rest := [.ref (ad 1)]) ⟨hx, hb, hml, hown, ha⟩ (c_absL l dC dI ((tl_P ab be) - (tl_Q ab be)) _) (va_cwS 1 ha g_K_Math_abs_JJ rfl rfl rfl (by decide +kernel) ⟨Nat.le_of_ble_eq_true rfl, Nat.le_of_ble_eq_true rfl⟩) (ct_pre ct_G0ok trivial hK hP hD hS hA [] rfl (by decide) [] rfl) rfl rfl hl.1 rfl (lv_room (Nat.le_of_ble_eq_true rfl)) d_K_takeLog_104 ⟨Nat.le_of_ble_eq_true rfl, Nat.le_of_ble_eq_true rfl⟩) hP hD hS hA [] rfl (by decide) (fun _ => rfl) (fun r9 u7 H locs hw hP hD hS => ?_)
  subst hw
  obtain ⟨hP, hD⟩ : va_P (dC, dI) cl9 (rk_w ad cL u) H ∧ va_D A (rk_w ad cL u) := ct_eqP (ct_sets_nil _ _) hP hD
  refine lv_lload hx hb d_K_takeLog_107 (lv_at hl 1 rfl) ?_
  refine lv_lload hx hb d_K_takeLog_109 (lv_at hl 2 rfl) ?_
  refine lv_ladd hx hb d_K_takeLog_111 ?_
  refine cs_callv (va_runV (As := [.long (pu_abl ((tl_P ab be) - (tl_Q ab be))), .long ((tl_P ab be) + (tl_Q ab be))]) (rest := []) ⟨hx, hb, hml, hown, ha⟩ (c_W_loadRatio l dC dI (ad 1) (ad 2) (ad 3) cL (u 0) (pu_abl ((tl_P ab be) - (tl_Q ab be))) ((tl_P ab be) + (tl_Q ab be)) _) (cwV 2 ha g_K_W_loadRatio rfl rfl rfl (by decide +kernel) ⟨Nat.le_of_ble_eq_true rfl, Nat.le_of_ble_eq_true rfl⟩) (ct_preV ct_G0ok trivial hK hP hD hS hA [1, 2] rfl (by decide) [0] rfl 1 0 rfl rfl rfl) rfl rfl hl.1 rfl (lv_room (Nat.le_of_ble_eq_true rfl)) d_K_takeLog_112 ⟨Nat.le_of_ble_eq_true rfl, Nat.le_of_ble_eq_true rfl⟩) hP hD hS hA [1, 2] rfl (by decide) (fun _ => rfl) (fun u7 H locs hw hP hD hS => ?_)
  obtain rfl : u7 = _ := hw.trans (ir_eq _).symm
  obtain ⟨hP, hD⟩ : va_P (dC, dI) cl9 (rk_w ad cL (rk_ratio 0 (pu_abl ((tl_P ab be) - (tl_Q ab be))) ((tl_P ab be) + (tl_Q ab be)) u)) H ∧ va_D A (rk_w ad cL (rk_ratio 0 (pu_abl ((tl_P ab be) - (tl_Q ab be))) ((tl_P ab be) + (tl_Q ab be)) u)) := ct_eqP (rkw1_0 ad cL u _) hP hD
  generalize hg_u_1 : rk_ratio 0 (pu_abl ((tl_P ab be) - (tl_Q ab be))) ((tl_P ab be) + (tl_Q ab be)) u = u_1 at hP hD
  refine lv_aload_n hx hb d_K_takeLog_115 rfl (lv_at hl 0 rfl) ?_
  refine lv_iconst (v := 0) hx hb d_K_takeLog_116 (by decide) ?_
  refine cs_callv (va_runV (As := [.int 0]) (rest := []) ⟨hx, hb, hml, hown, ha⟩ (c_K_sumOddPowers l dC dI ad cL u_1 0 _) (cwV 1 ha g_K_K_sumOddPowers rfl rfl rfl (by decide +kernel) ⟨Nat.le_of_ble_eq_true rfl, Nat.le_of_ble_eq_true rfl⟩) (ct_preV ct_G0ok trivial hK hP hD hS hA [0, 1, 2, 3, 4, 5, 6, 7, 8, 9, 10, 11, 12, 13, 14, 15] rfl (by decide) [0] rfl 0 1 rfl rfl rfl) rfl rfl hl.1 rfl (lv_room (Nat.le_of_ble_eq_true rfl)) d_K_takeLog_117 ⟨Nat.le_of_ble_eq_true rfl, Nat.le_of_ble_eq_true rfl⟩) hP hD hS hA [0, 1, 2, 3, 4, 5, 6, 7, 8, 9, 10, 11, 12, 13, 14, 15] rfl (by decide) (fun _ => rfl) (fun u7 H locs hw hP hD hS => ?_)
  subst hw
  obtain ⟨hP, hD⟩ : va_P (dC, dI) cl9 (rk_w ad cL (rk_odd 0 u_1)) H ∧ va_D A (rk_w ad cL (rk_odd 0 u_1)) := ct_eqP (rkwA ad cL u_1 _) hP hD
  generalize hg_u_2 : rk_odd 0 u_1 = u_2 at hP hD
  refine lv_aload_n hx hb d_K_takeLog_120 rfl (lv_at hl 0 rfl) ?_
  refine va_get (D := (dC, dI)) (ci := 1) (v := .ref (ad 1)) (C := R_K) (T := F_K) (N := 5) hx hb ha ui_K hown hK hP 0 rfl rfl 0 (by decide) (ha _ wm_K_6) (fun _ h9 => h9) rfl d_K_takeLog_121 ?_
  refine lv_ldc2 (v := 2) hx hb hown (ha _ wm_K_35) d_K_takeLog_124 ?_
  refine cs_callv (va_runV (As := [.long 2]) (rest := []) ⟨hx, hb, hml, hown, ha⟩ (c_W_scale l dC dI (ad 1) (ad 2) (ad 3) cL (u_2 0) 2 _) (cwV 1 ha g_K_W_scale rfl rfl rfl (by decide +kernel) ⟨Nat.le_of_ble_eq_true rfl, Nat.le_of_ble_eq_true rfl⟩) (ct_preV ct_G0ok trivial hK hP hD hS hA [1, 2] rfl (by decide) [0] rfl 1 0 rfl rfl rfl) rfl rfl hl.1 rfl (lv_room (Nat.le_of_ble_eq_true rfl)) d_K_takeLog_127 ⟨Nat.le_of_ble_eq_true rfl, Nat.le_of_ble_eq_true rfl⟩) hP hD hS hA [1, 2] rfl (by decide) (fun _ => rfl) (fun u7 H locs hw hP hD hS => ?_)
  obtain rfl : u7 = _ := hw.trans (ir_eq _).symm
  obtain ⟨hP, hD⟩ : va_P (dC, dI) cl9 (rk_w ad cL (rk_scl 0 2 u_2)) H ∧ va_D A (rk_w ad cL (rk_scl 0 2 u_2)) := ct_eqP (rkw1_0 ad cL u_2 _) hP hD
  generalize hg_u_3 : rk_scl 0 2 u_2 = u_3 at hP hD
  refine lv_lload hx hb d_K_takeLog_130 (lv_at hl 1 rfl) ?_
  refine lv_lload hx hb d_K_takeLog_132 (lv_at hl 2 rfl) ?_
  refine ct_jge (tgt := 145) hx hb d_K_takeLog_134 d_K_takeLog_135 (by decide) (fun h1 => ?_) (fun h1 => ?_)
  · refine lv_aload_n hx hb d_K_takeLog_145 rfl (lv_at hl 0 rfl) ?_
    refine va_get (D := (dC, dI)) (ci := 1) (v := .ref (ad 10)) (C := R_K) (T := F_K) (N := 5) hx hb ha ui_K hown hK hP 0 rfl rfl 3 (by decide) (ha _ wm_K_9) (fun _ h9 => h9) rfl d_K_takeLog_146 ?_
    refine va_gets (C := "HouseFunctions$Reckoner") (n := "LOG_OF_TWO") (d := "[J") (v := .ref tl) hx hb hG.1.1 hS hown (ha _ wm_K_43) (fun _ h9 => h9) d_K_takeLog_149 ?_
    refine lv_iconst (v := 0) hx hb d_K_takeLog_152 (by decide) ?_
    refine cs_callv (va_runV (As := [.ref tl, .int 0]) (rest := []) ⟨hx, hb, hml, hown, ha⟩ (c_W_loadLimbs l dC dI (ad 10) (ad 11) (ad 12) cL (u_3 6) tl 7 (by omega) kc_L 0 _) (cwV 2 ha g_K_W_loadLimbs rfl rfl rfl (by decide +kernel) ⟨Nat.le_of_ble_eq_true rfl, Nat.le_of_ble_eq_true rfl⟩) (ct_preV (ld_Gok tl 7 kc_L) hG.1.2 hK hP hD hS hA [10, 11] rfl (by decide) [0] rfl 10 0 rfl rfl rfl) rfl rfl hl.1 rfl (lv_room (Nat.le_of_ble_eq_true rfl)) d_K_takeLog_153 ⟨Nat.le_of_ble_eq_true rfl, Nat.le_of_ble_eq_true rfl⟩) hP hD hS hA [10, 11] rfl (by decide) (fun _ => rfl) (fun u7 H locs hw hP hD hS => ?_)
    obtain rfl : u7 = _ := hw.trans (ir_eq _).symm
    obtain ⟨hP, hD⟩ : va_P (dC, dI) cl9 (rk_w ad cL (rk_lim 3 kc_L 7 0 u_3)) H ∧ va_D A (rk_w ad cL (rk_lim 3 kc_L 7 0 u_3)) := ct_eqP (rkw1_3 ad cL u_3 _) hP hD
    generalize hg_u_4 : rk_lim 3 kc_L 7 0 u_3 = u_4 at hP hD
    refine lv_aload_n hx hb d_K_takeLog_156 rfl (lv_at hl 0 rfl) ?_
    refine va_get (D := (dC, dI)) (ci := 1) (v := .ref (ad 10)) (C := R_K) (T := F_K) (N := 5) hx hb ha ui_K hown hK hP 0 rfl rfl 3 (by decide) (ha _ wm_K_9) (fun _ h9 => h9) rfl d_K_takeLog_157 ?_
    refine lv_iload hx hb d_K_takeLog_160 (lv_at hl 3 rfl) ?_
    refine cs_calli (va_runS (As := [.int (tl_D ab be)]) (rest := [.ref (ad 10)]) ⟨hx, hb, hml, hown, ha⟩ (c_absI l dC dI (tl_D ab be) _) (va_cwS 1 ha g_K_Math_abs_II rfl rfl rfl (by decide +kernel) ⟨Nat.le_of_ble_eq_true rfl, Nat.le_of_ble_eq_true rfl⟩) (ct_pre ct_G0ok trivial hK hP hD hS hA [] rfl (by decide) [] rfl) rfl rfl hl.1 rfl (lv_room (Nat.le_of_ble_eq_true rfl)) d_K_takeLog_162 ⟨Nat.le_of_ble_eq_true rfl, Nat.le_of_ble_eq_true rfl⟩) hP hD hS hA [] rfl (by decide) (fun _ => rfl) (fun r9 u7 H locs hw hP hD hS => ?_)
    subst hw
    obtain ⟨hP, hD⟩ : va_P (dC, dI) cl9 (rk_w ad cL u_4) H ∧ va_D A (rk_w ad cL u_4) := ct_eqP (ct_sets_nil _ _) hP hD
    refine lv_i2l hx hb d_K_takeLog_165 rfl ?_
    refine cs_callv (va_runV (As := [.long (((pu_abi (tl_D ab be)) : Int32).toInt64)]) (rest := []) ⟨hx, hb, hml, hown, ha⟩ (c_W_scale l dC dI (ad 10) (ad 11) (ad 12) cL (u_4 6) (((pu_abi (tl_D ab be)) : Int32).toInt64) _) (cwV 1 ha g_K_W_scale rfl rfl rfl (by decide +kernel) ⟨Nat.le_of_ble_eq_true rfl, Nat.le_of_ble_eq_true rfl⟩) (ct_preV ct_G0ok trivial hK hP hD hS hA [10, 11] rfl (by decide) [0] rfl 10 0 rfl rfl rfl) rfl rfl hl.1 rfl (lv_room (Nat.le_of_ble_eq_true rfl)) d_K_takeLog_166 ⟨Nat.le_of_ble_eq_true rfl, Nat.le_of_ble_eq_true rfl⟩) hP hD hS hA [10, 11] rfl (by decide) (fun _ => rfl) (fun u7 H locs hw hP hD hS => ?_)
    obtain rfl : u7 = _ := hw.trans (ir_eq _).symm
    obtain ⟨hP, hD⟩ : va_P (dC, dI) cl9 (rk_w ad cL (rk_scl 3 (((pu_abi (tl_D ab be)) : Int32).toInt64) u_4)) H ∧ va_D A (rk_w ad cL (rk_scl 3 (((pu_abi (tl_D ab be)) : Int32).toInt64) u_4)) := ct_eqP (rkw1_3 ad cL u_4 _) hP hD
    generalize hg_u_5 : rk_scl 3 (((pu_abi (tl_D ab be)) : Int32).toInt64) u_4 = u_5 at hP hD
    refine lv_aload_n hx hb d_K_takeLog_169 rfl (lv_at hl 0 rfl) ?_
    refine va_get (D := (dC, dI)) (ci := 1) (v := .ref (ad 1)) (C := R_K) (T := F_K) (N := 5) hx hb ha ui_K hown hK hP 0 rfl rfl 0 (by decide) (ha _ wm_K_6) (fun _ h9 => h9) rfl d_K_takeLog_170 ?_
    refine lv_aload_n hx hb d_K_takeLog_173 rfl (lv_at hl 0 rfl) ?_
    refine va_get (D := (dC, dI)) (ci := 1) (v := .ref (ad 10)) (C := R_K) (T := F_K) (N := 5) hx hb ha ui_K hown hK hP 0 rfl rfl 3 (by decide) (ha _ wm_K_9) (fun _ h9 => h9) rfl d_K_takeLog_174 ?_
    refine lv_iload hx hb d_K_takeLog_177 (lv_at hl 3 rfl) ?_
    refine lv_if_ge (tgt := 186) hx hb d_K_takeLog_179 (by decide) (fun h2 => ?_) (fun h2 => ?_)
    · refine lv_iconst (v := 0) hx hb d_K_takeLog_186 (by decide) ?_
      refine cs_callv (va_runV (As := [.ref (ad 10), .int 0]) (rest := []) ⟨hx, hb, hml, hown, ha⟩ (c_W_addOrSubtract l dC dI (ad 1) (ad 2) (ad 3) (ad 10) (ad 11) (ad 12) cL (u_5 0) (u_5 6) 0 _) (cwV 2 ha g_K_W_addOrSubtract rfl rfl rfl (by decide +kernel) ⟨Nat.le_of_ble_eq_true rfl, Nat.le_of_ble_eq_true rfl⟩) (ct_preV ct_G0ok trivial hK hP hD hS hA [1, 2, 10, 11] rfl (by decide) [0] rfl 1 0 rfl rfl rfl) rfl rfl hl.1 rfl (lv_room (Nat.le_of_ble_eq_true rfl)) d_K_takeLog_187 ⟨Nat.le_of_ble_eq_true rfl, Nat.le_of_ble_eq_true rfl⟩) hP hD hS hA [1, 2, 10, 11] rfl (by decide) (fun _ => rfl) (fun u7 H locs hw hP hD hS => ?_)
      obtain rfl : u7 = _ := hw.trans (ir_eq _).symm
      obtain ⟨hP, hD⟩ : va_P (dC, dI) cl9 (rk_w ad cL (rk_as 0 3 0 u_5)) H ∧ va_D A (rk_w ad cL (rk_as 0 3 0 u_5)) := ct_eqP (rkw2_0_3 ad cL u_5 _) hP hD
      generalize hg_u_6 : rk_as 0 3 0 u_5 = u_6 at hP hD
      exact ct_vret hF d_K_takeLog_190 u_6 (by subst hg_u_6; subst hg_u_5; subst hg_u_4; subst hg_u_3; subst hg_u_2; subst hg_u_1; unfold rk_log rk_log2 rk_log1; rw [if_pos h1, if_pos h2]; rfl) hP hD hK hS
    · refine lv_iconst (v := 1) hx hb d_K_takeLog_182 (by decide) ?_
      refine lv_goto (tgt := 187) hx hb d_K_takeLog_183 (by decide) ?_
      refine cs_callv (va_runV (As := [.ref (ad 10), .int 1]) (rest := []) ⟨hx, hb, hml, hown, ha⟩ (c_W_addOrSubtract l dC dI (ad 1) (ad 2) (ad 3) (ad 10) (ad 11) (ad 12) cL (u_5 0) (u_5 6) 1 _) (cwV 2 ha g_K_W_addOrSubtract rfl rfl rfl (by decide +kernel) ⟨Nat.le_of_ble_eq_true rfl, Nat.le_of_ble_eq_true rfl⟩) (ct_preV ct_G0ok trivial hK hP hD hS hA [1, 2, 10, 11] rfl (by decide) [0] rfl 1 0 rfl rfl rfl) rfl rfl hl.1 rfl (lv_room (Nat.le_of_ble_eq_true rfl)) d_K_takeLog_187 ⟨Nat.le_of_ble_eq_true rfl, Nat.le_of_ble_eq_true rfl⟩) hP hD hS hA [1, 2, 10, 11] rfl (by decide) (fun _ => rfl) (fun u7 H locs hw hP hD hS => ?_)
      obtain rfl : u7 = _ := hw.trans (ir_eq _).symm
      obtain ⟨hP, hD⟩ : va_P (dC, dI) cl9 (rk_w ad cL (rk_as 0 3 1 u_5)) H ∧ va_D A (rk_w ad cL (rk_as 0 3 1 u_5)) := ct_eqP (rkw2_0_3 ad cL u_5 _) hP hD
      generalize hg_u_7 : rk_as 0 3 1 u_5 = u_7 at hP hD
      exact ct_vret hF d_K_takeLog_190 u_7 (by subst hg_u_7; subst hg_u_5; subst hg_u_4; subst hg_u_3; subst hg_u_2; subst hg_u_1; unfold rk_log rk_log2 rk_log1; rw [if_pos h1, if_neg h2]; rfl) hP hD hK hS
  · refine lv_aload_n hx hb d_K_takeLog_138 rfl (lv_at hl 0 rfl) ?_
    refine va_get (D := (dC, dI)) (ci := 1) (v := .ref (ad 1)) (C := R_K) (T := F_K) (N := 5) hx hb ha ui_K hown hK hP 0 rfl rfl 0 (by decide) (ha _ wm_K_6) (fun _ h9 => h9) rfl d_K_takeLog_139 ?_
    refine cs_callv (va_runV (As := []) (rest := []) ⟨hx, hb, hml, hown, ha⟩ (c_W_negate l dC dI (ad 1) (ad 2) (ad 3) cL (u_3 0) _) (cwV 0 ha g_K_W_negate rfl rfl rfl (by decide +kernel) ⟨Nat.le_of_ble_eq_true rfl, Nat.le_of_ble_eq_true rfl⟩) (ct_preV ct_G0ok trivial hK hP hD hS hA [1, 2] rfl (by decide) [0] rfl 1 0 rfl rfl rfl) rfl rfl hl.1 rfl (lv_room (Nat.le_of_ble_eq_true rfl)) d_K_takeLog_142 ⟨Nat.le_of_ble_eq_true rfl, Nat.le_of_ble_eq_true rfl⟩) hP hD hS hA [1, 2] rfl (by decide) (fun _ => rfl) (fun u7 H locs hw hP hD hS => ?_)
    obtain rfl : u7 = _ := hw.trans (ir_eq _).symm
    obtain ⟨hP, hD⟩ : va_P (dC, dI) cl9 (rk_w ad cL (rk_neg 0 u_3)) H ∧ va_D A (rk_w ad cL (rk_neg 0 u_3)) := ct_eqP (rkw1_0 ad cL u_3 _) hP hD
    generalize hg_u_8 : rk_neg 0 u_3 = u_8 at hP hD
    refine lv_aload_n hx hb d_K_takeLog_145 rfl (lv_at hl 0 rfl) ?_
    refine va_get (D := (dC, dI)) (ci := 1) (v := .ref (ad 10)) (C := R_K) (T := F_K) (N := 5) hx hb ha ui_K hown hK hP 0 rfl rfl 3 (by decide) (ha _ wm_K_9) (fun _ h9 => h9) rfl d_K_takeLog_146 ?_
    refine va_gets (C := "HouseFunctions$Reckoner") (n := "LOG_OF_TWO") (d := "[J") (v := .ref tl) hx hb hG.1.1 hS hown (ha _ wm_K_43) (fun _ h9 => h9) d_K_takeLog_149 ?_
    refine lv_iconst (v := 0) hx hb d_K_takeLog_152 (by decide) ?_
    refine cs_callv (va_runV (As := [.ref tl, .int 0]) (rest := []) ⟨hx, hb, hml, hown, ha⟩ (c_W_loadLimbs l dC dI (ad 10) (ad 11) (ad 12) cL (u_8 6) tl 7 (by omega) kc_L 0 _) (cwV 2 ha g_K_W_loadLimbs rfl rfl rfl (by decide +kernel) ⟨Nat.le_of_ble_eq_true rfl, Nat.le_of_ble_eq_true rfl⟩) (ct_preV (ld_Gok tl 7 kc_L) hG.1.2 hK hP hD hS hA [10, 11] rfl (by decide) [0] rfl 10 0 rfl rfl rfl) rfl rfl hl.1 rfl (lv_room (Nat.le_of_ble_eq_true rfl)) d_K_takeLog_153 ⟨Nat.le_of_ble_eq_true rfl, Nat.le_of_ble_eq_true rfl⟩) hP hD hS hA [10, 11] rfl (by decide) (fun _ => rfl) (fun u7 H locs hw hP hD hS => ?_)
    obtain rfl : u7 = _ := hw.trans (ir_eq _).symm
    obtain ⟨hP, hD⟩ : va_P (dC, dI) cl9 (rk_w ad cL (rk_lim 3 kc_L 7 0 u_8)) H ∧ va_D A (rk_w ad cL (rk_lim 3 kc_L 7 0 u_8)) := ct_eqP (rkw1_3 ad cL u_8 _) hP hD
    generalize hg_u_9 : rk_lim 3 kc_L 7 0 u_8 = u_9 at hP hD
    refine lv_aload_n hx hb d_K_takeLog_156 rfl (lv_at hl 0 rfl) ?_
    refine va_get (D := (dC, dI)) (ci := 1) (v := .ref (ad 10)) (C := R_K) (T := F_K) (N := 5) hx hb ha ui_K hown hK hP 0 rfl rfl 3 (by decide) (ha _ wm_K_9) (fun _ h9 => h9) rfl d_K_takeLog_157 ?_
    refine lv_iload hx hb d_K_takeLog_160 (lv_at hl 3 rfl) ?_
    refine cs_calli (va_runS (As := [.int (tl_D ab be)]) (rest := [.ref (ad 10)]) ⟨hx, hb, hml, hown, ha⟩ (c_absI l dC dI (tl_D ab be) _) (va_cwS 1 ha g_K_Math_abs_II rfl rfl rfl (by decide +kernel) ⟨Nat.le_of_ble_eq_true rfl, Nat.le_of_ble_eq_true rfl⟩) (ct_pre ct_G0ok trivial hK hP hD hS hA [] rfl (by decide) [] rfl) rfl rfl hl.1 rfl (lv_room (Nat.le_of_ble_eq_true rfl)) d_K_takeLog_162 ⟨Nat.le_of_ble_eq_true rfl, Nat.le_of_ble_eq_true rfl⟩) hP hD hS hA [] rfl (by decide) (fun _ => rfl) (fun r9 u7 H locs hw hP hD hS => ?_)
    subst hw
    obtain ⟨hP, hD⟩ : va_P (dC, dI) cl9 (rk_w ad cL u_9) H ∧ va_D A (rk_w ad cL u_9) := ct_eqP (ct_sets_nil _ _) hP hD
    refine lv_i2l hx hb d_K_takeLog_165 rfl ?_
    refine cs_callv (va_runV (As := [.long (((pu_abi (tl_D ab be)) : Int32).toInt64)]) (rest := []) ⟨hx, hb, hml, hown, ha⟩ (c_W_scale l dC dI (ad 10) (ad 11) (ad 12) cL (u_9 6) (((pu_abi (tl_D ab be)) : Int32).toInt64) _) (cwV 1 ha g_K_W_scale rfl rfl rfl (by decide +kernel) ⟨Nat.le_of_ble_eq_true rfl, Nat.le_of_ble_eq_true rfl⟩) (ct_preV ct_G0ok trivial hK hP hD hS hA [10, 11] rfl (by decide) [0] rfl 10 0 rfl rfl rfl) rfl rfl hl.1 rfl (lv_room (Nat.le_of_ble_eq_true rfl)) d_K_takeLog_166 ⟨Nat.le_of_ble_eq_true rfl, Nat.le_of_ble_eq_true rfl⟩) hP hD hS hA [10, 11] rfl (by decide) (fun _ => rfl) (fun u7 H locs hw hP hD hS => ?_)
    obtain rfl : u7 = _ := hw.trans (ir_eq _).symm
    obtain ⟨hP, hD⟩ : va_P (dC, dI) cl9 (rk_w ad cL (rk_scl 3 (((pu_abi (tl_D ab be)) : Int32).toInt64) u_9)) H ∧ va_D A (rk_w ad cL (rk_scl 3 (((pu_abi (tl_D ab be)) : Int32).toInt64) u_9)) := ct_eqP (rkw1_3 ad cL u_9 _) hP hD
    generalize hg_u_10 : rk_scl 3 (((pu_abi (tl_D ab be)) : Int32).toInt64) u_9 = u_10 at hP hD
    refine lv_aload_n hx hb d_K_takeLog_169 rfl (lv_at hl 0 rfl) ?_
    refine va_get (D := (dC, dI)) (ci := 1) (v := .ref (ad 1)) (C := R_K) (T := F_K) (N := 5) hx hb ha ui_K hown hK hP 0 rfl rfl 0 (by decide) (ha _ wm_K_6) (fun _ h9 => h9) rfl d_K_takeLog_170 ?_
    refine lv_aload_n hx hb d_K_takeLog_173 rfl (lv_at hl 0 rfl) ?_
    refine va_get (D := (dC, dI)) (ci := 1) (v := .ref (ad 10)) (C := R_K) (T := F_K) (N := 5) hx hb ha ui_K hown hK hP 0 rfl rfl 3 (by decide) (ha _ wm_K_9) (fun _ h9 => h9) rfl d_K_takeLog_174 ?_
    refine lv_iload hx hb d_K_takeLog_177 (lv_at hl 3 rfl) ?_
    refine lv_if_ge (tgt := 186) hx hb d_K_takeLog_179 (by decide) (fun h2 => ?_) (fun h2 => ?_)
    · refine lv_iconst (v := 0) hx hb d_K_takeLog_186 (by decide) ?_
      refine cs_callv (va_runV (As := [.ref (ad 10), .int 0]) (rest := []) ⟨hx, hb, hml, hown, ha⟩ (c_W_addOrSubtract l dC dI (ad 1) (ad 2) (ad 3) (ad 10) (ad 11) (ad 12) cL (u_10 0) (u_10 6) 0 _) (cwV 2 ha g_K_W_addOrSubtract rfl rfl rfl (by decide +kernel) ⟨Nat.le_of_ble_eq_true rfl, Nat.le_of_ble_eq_true rfl⟩) (ct_preV ct_G0ok trivial hK hP hD hS hA [1, 2, 10, 11] rfl (by decide) [0] rfl 1 0 rfl rfl rfl) rfl rfl hl.1 rfl (lv_room (Nat.le_of_ble_eq_true rfl)) d_K_takeLog_187 ⟨Nat.le_of_ble_eq_true rfl, Nat.le_of_ble_eq_true rfl⟩) hP hD hS hA [1, 2, 10, 11] rfl (by decide) (fun _ => rfl) (fun u7 H locs hw hP hD hS => ?_)
      obtain rfl : u7 = _ := hw.trans (ir_eq _).symm
      obtain ⟨hP, hD⟩ : va_P (dC, dI) cl9 (rk_w ad cL (rk_as 0 3 0 u_10)) H ∧ va_D A (rk_w ad cL (rk_as 0 3 0 u_10)) := ct_eqP (rkw2_0_3 ad cL u_10 _) hP hD
      generalize hg_u_11 : rk_as 0 3 0 u_10 = u_11 at hP hD
      exact ct_vret hF d_K_takeLog_190 u_11 (by subst hg_u_11; subst hg_u_10; subst hg_u_9; subst hg_u_8; subst hg_u_3; subst hg_u_2; subst hg_u_1; unfold rk_log rk_log2 rk_log1; rw [if_neg h1, if_pos h2]; rfl) hP hD hK hS
    · refine lv_iconst (v := 1) hx hb d_K_takeLog_182 (by decide) ?_
      refine lv_goto (tgt := 187) hx hb d_K_takeLog_183 (by decide) ?_
      refine cs_callv (va_runV (As := [.ref (ad 10), .int 1]) (rest := []) ⟨hx, hb, hml, hown, ha⟩ (c_W_addOrSubtract l dC dI (ad 1) (ad 2) (ad 3) (ad 10) (ad 11) (ad 12) cL (u_10 0) (u_10 6) 1 _) (cwV 2 ha g_K_W_addOrSubtract rfl rfl rfl (by decide +kernel) ⟨Nat.le_of_ble_eq_true rfl, Nat.le_of_ble_eq_true rfl⟩) (ct_preV ct_G0ok trivial hK hP hD hS hA [1, 2, 10, 11] rfl (by decide) [0] rfl 1 0 rfl rfl rfl) rfl rfl hl.1 rfl (lv_room (Nat.le_of_ble_eq_true rfl)) d_K_takeLog_187 ⟨Nat.le_of_ble_eq_true rfl, Nat.le_of_ble_eq_true rfl⟩) hP hD hS hA [1, 2, 10, 11] rfl (by decide) (fun _ => rfl) (fun u7 H locs hw hP hD hS => ?_)
      obtain rfl : u7 = _ := hw.trans (ir_eq _).symm
      obtain ⟨hP, hD⟩ : va_P (dC, dI) cl9 (rk_w ad cL (rk_as 0 3 1 u_10)) H ∧ va_D A (rk_w ad cL (rk_as 0 3 1 u_10)) := ct_eqP (rkw2_0_3 ad cL u_10 _) hP hD
      generalize hg_u_12 : rk_as 0 3 1 u_10 = u_12 at hP hD
      exact ct_vret hF d_K_takeLog_190 u_12 (by subst hg_u_12; subst hg_u_10; subst hg_u_9; subst hg_u_8; subst hg_u_3; subst hg_u_2; subst hg_u_1; unfold rk_log rk_log2 rk_log1; rw [if_neg h1, if_neg h2]; rfl) hP hD hK hS
