theorem md_ix (r k : Nat) : (24 : Int32) * nI r + nI k = nI (24 * r + k) := by
  rw [← nI_add, ← pk_mul]; rfl
def pu_rem (x b : Int64) : Int64 := x - x / b * b
def md_cp (r a : Nat) (g : Nat → Int64) : Nat → (Nat → Int64)
  | 0 => g
  | k + 1 => vp_updL (md_cp r a g k) (24 * r + k) (md_cp r a g k (24 * a + k))
def md_av (r a : Nat) (z : (Nat → Int64) × Int64) (k : Nat) : Int64 := z.1 (24 * r + k) + z.1 (24 * a + k) + z.2
def md_ao (v : Int64) : Int64 := if v < 1000000 then 0 else 1
def md_add (r a : Nat) (g : Nat → Int64) : Nat → (Nat → Int64) × Int64
  | 0 => (g, 0)
  | k + 1 => (vp_updL (md_add r a g k).1 (24 * r + k) (md_av r a (md_add r a g k) k - md_ao (md_av r a (md_add r a g k) k) * 1000000), md_ao (md_av r a (md_add r a g k) k))
def md_lv (r a : Nat) (z : (Nat → Int64) × Int64) (k : Nat) : Int64 := z.1 (24 * r + k) - z.1 (24 * a + k) - z.2
def md_lo (v : Int64) : Int64 := if 0 ≤ v then 0 else 1
def md_les (r a : Nat) (g : Nat → Int64) : Nat → (Nat → Int64) × Int64
  | 0 => (g, 0)
  | k + 1 => (vp_updL (md_les r a g k).1 (24 * r + k) (md_lv r a (md_les r a g k) k + md_lo (md_lv r a (md_les r a g k) k) * 1000000), md_lo (md_lv r a (md_les r a g k) k))
def md_tv (r : Nat) (m : Int64) (z : (Nat → Int64) × Int64) (k : Nat) : Int64 := z.1 (24 * r + k) * m + z.2
def md_tim (r : Nat) (m : Int64) (g : Nat → Int64) : Nat → (Nat → Int64) × Int64
  | 0 => (g, 0)
  | k + 1 => (vp_updL (md_tim r m g k).1 (24 * r + k) (pu_rem (md_tv r m (md_tim r m g k) k) 1000000), md_tv r m (md_tim r m g k) k / 1000000)
def md_bv (r : Nat) (z : (Nat → Int64) × Int64) (k : Nat) : Int64 := z.2 * 1000000 + z.1 (24 * r + (23 - k))
def md_by (r : Nat) (q : Int64) (g : Nat → Int64) : Nat → (Nat → Int64) × Int64
  | 0 => (g, 0)
  | k + 1 => (vp_updL (md_by r q g k).1 (24 * r + (23 - k)) (md_bv r (md_by r q g k) k / q), pu_rem (md_bv r (md_by r q g k) k) q)
def md_wh (f r : Nat) (v : Int64) (g : Nat → Int64) : Nat → (Nat → Int64) × Int64
  | 0 => (g, v)
  | k + 1 => (vp_updL (md_wh f r v g k).1 (24 * r + k) (if k < f then 0 else pu_rem (md_wh f r v g k).2 1000000), if k < f then (md_wh f r v g k).2 else (md_wh f r v g k).2 / 1000000)
def md_no (r : Nat) (g : Nat → Int64) : Nat → Int32
  | 0 => 1
  | k + 1 => if md_no r g k = 0 then 0 else if g (24 * r + k) = 0 then 1 else 0
def md_ag (a b : Nat) (g : Nat → Int64) : Nat → Int32
  | 0 => 0
  | k + 1 => if g (24 * a + k) = g (24 * b + k) then md_ag a b g k else if g (24 * b + k) < g (24 * a + k) then 1 else -1
theorem md_no01 (r : Nat) (g : Nat → Int64) : ∀ k, md_no r g k = 0 ∨ md_no r g k = 1
  | 0 => Or.inr rfl
  | k + 1 => by
    unfold md_no
    split
    · exact Or.inl rfl
    · split
      · exact Or.inr rfl
      · exact Or.inl rfl
theorem md_m1lt (f : Nat) (h : f ≤ 24) : nI (f + 0) + (-1) < nI f := by
  have h2 : ∀ f, f < 25 → nI (f + 0) + (-1) < nI f := by decide
  exact h2 f (by omega)
def md_be (r : Nat) (g : Nat → Int64) : Nat → Int64
  | 0 => 0
  | k + 1 => md_be r g k * 1000000 + g (24 * r + (23 - k))
set_option maxHeartbeats 4000000 in
set_option maxRecDepth 100000 in
/-- copy's loop -/
theorem lp_M_copy {p : Program} {l : Launch} {e : Env} {R : Room} {s : State} {m : MethodId} {args : Array Value} {below : List Frame} {meth : Method} {c : Code} {Q : State → Prop} {A : Nat → Prop} {cells slots : Nat} {dC : Nat → ClassId} {dI : Nat → Nat → Nat} {mx : Nat} {th : Int32} {sd : Int64} {nt : Int32} {ro : Nat} {pl : Nat} {vl : Nat} {f : Nat} {pa : Nat} {pr : Nat} {cL : ClassId} {g : Nat → Int64} {r : Nat} {a : Nat} (hF : ct_F p s m meth c b_M_copy none 4 w_M_copy y_M_copy args) (hA : ∀ q, s.heap.size ≤ q → A q) (hK : va_K (dC, dI) cl9 [(cL, .long)] s) (hr9 : r < 10) (ha9 : a < 10)
    (K : ∀ (H : Heap) (locs : List Loc) (ls : Array Slot), va_P (dC, dI) cl9 [(mx, .inr (4, [.int th, .long sd, .int nt, .ref ro, .ref pl, .ref vl, .int (nI f), .ref pa, .ref pr])), (pa, .inl (cL, 240, .inr (.inl (md_cp r a g 24))))] H → va_D A [(mx, .inr (4, [.int th, .long sd, .int nt, .ref ro, .ref pl, .ref vl, .int (nI f), .ref pa, .ref pr])), (pa, .inl (cL, 240, .inr (.inl (md_cp r a g 24))))] → va_S A s.heap H locs → lv_has ls 4 [(0, .ref mx), (1, .int (nI r)), (2, .int (nI a)), (3, .int (nI 24))] → W p l e R s m args below meth c H locs cells slots Q (F0 m 36 ls [])) :
    ∀ (n9 i : Nat), i + n9 = 24 → ∀ (H : Heap) (locs : List Loc) (ls : Array Slot), va_P (dC, dI) cl9 [(mx, .inr (4, [.int th, .long sd, .int nt, .ref ro, .ref pl, .ref vl, .int (nI f), .ref pa, .ref pr])), (pa, .inl (cL, 240, .inr (.inl (md_cp r a g i))))] H → va_D A [(mx, .inr (4, [.int th, .long sd, .int nt, .ref ro, .ref pl, .ref vl, .int (nI f), .ref pa, .ref pr])), (pa, .inl (cL, 240, .inr (.inl (md_cp r a g i))))] → va_S A s.heap H locs → lv_has ls 4 [(0, .ref mx), (1, .int (nI r)), (2, .int (nI a)), (3, .int (nI i))] → W p l e R s m args below meth c H locs cells slots Q (F0 m 2 ls []) := by
  obtain ⟨hx, hb, hr, hml, hts, hown, hlocks, hnm⟩ := id hF
  have hown : s.vm.findClass R_M = some m.cls := hown
  have ha : ∀ w ∈ al_M, w.before args s = true := fun w h => hts w (List.mem_cons_of_mem _ h)
  intro n9
  induction n9 with
  | zero =>
    intro i hi H locs ls hP hD hS hl
    obtain rfl : 24 = i := by omega
    refine lv_iload_n hx hb d_M_copy_2 rfl (lv_at hl 3 rfl) ?_
    refine lv_bipush (v := 24) hx hb d_M_copy_3 (by decide) ?_
    refine lv_icmp_ge (tgt := 36) hx hb d_M_copy_5 (by decide) (fun hc => ?_) (fun hc => ?_)
    · exact K _ _ _ hP hD hS (lv_sub hl [0, 1, 2, 3] rfl)
    · exact absurd (show nI 24 ≤ nI 24 from nI_le (by omega) (by omega)) hc
  | succ n9 ih =>
    intro i hi H locs ls hP hD hS hl
    have hlt : i < 24 := by omega
    refine lv_iload_n hx hb d_M_copy_2 rfl (lv_at hl 3 rfl) ?_
    refine lv_bipush (v := 24) hx hb d_M_copy_3 (by decide) ?_
    refine lv_icmp_ge (tgt := 36) hx hb d_M_copy_5 (by decide) (fun hc => ?_) (fun hc => ?_)
    · exact absurd (show nI 24 ≤ nI i from hc) (nI_ge (by omega) (by omega))
    · refine lv_aload_n hx hb d_M_copy_8 rfl (lv_at hl 0 rfl) ?_
      refine va_get (D := (dC, dI)) (ci := 4) (v := .ref pa) (C := R_M) (T := F_M) (N := 9) hx hb ha ui_M hown hK hP 0 rfl rfl 7 (by decide) (ha _ wm_M_12) (fun _ h9 => h9) rfl d_M_copy_9 ?_
      refine lv_bipush (v := 24) hx hb d_M_copy_12 (by decide) ?_
      refine lv_iload_n hx hb d_M_copy_14 rfl (lv_at hl 1 rfl) ?_
      refine lv_imul hx hb d_M_copy_15 ?_
      refine lv_iload_n hx hb d_M_copy_16 rfl (lv_at hl 3 rfl) ?_
      refine lv_iadd hx hb d_M_copy_17 ?_
      refine lv_aload_n hx hb d_M_copy_18 rfl (lv_at hl 0 rfl) ?_
      refine va_get (D := (dC, dI)) (ci := 4) (v := .ref pa) (C := R_M) (T := F_M) (N := 9) hx hb ha ui_M hown hK hP 0 rfl rfl 7 (by decide) (ha _ wm_M_12) (fun _ h9 => h9) rfl d_M_copy_19 ?_
      refine lv_bipush (v := 24) hx hb d_M_copy_22 (by decide) ?_
      refine lv_iload_n hx hb d_M_copy_24 rfl (lv_at hl 2 rfl) ?_
      refine lv_imul hx hb d_M_copy_25 ?_
      refine lv_iload_n hx hb d_M_copy_26 rfl (lv_at hl 3 rfl) ?_
      refine lv_iadd hx hb d_M_copy_27 ?_
      refine ct_lald hx hb hK hP 1 0 rfl rfl (24 * a + i) (md_ix a i) (by omega) (by omega) d_M_copy_28 ?_
      refine ct_last hx hb hK hP hD hS 1 0 rfl rfl (24 * r + i) (md_ix r i) (by omega) (by omega) d_M_copy_29 (fun H locs hP hD hS => ?_)
      have hP : va_P (dC, dI) cl9 [(mx, .inr (4, [.int th, .long sd, .int nt, .ref ro, .ref pl, .ref vl, .int (nI f), .ref pa, .ref pr])), (pa, .inl (cL, 240, .inr (.inl (vp_updL (md_cp r a g i) (24 * r + i) ((md_cp r a g i) (24 * a + i))))))] H := hP
      have hD : va_D A [(mx, .inr (4, [.int th, .long sd, .int nt, .ref ro, .ref pl, .ref vl, .int (nI f), .ref pa, .ref pr])), (pa, .inl (cL, 240, .inr (.inl (vp_updL (md_cp r a g i) (24 * r + i) ((md_cp r a g i) (24 * a + i))))))] := hD
      refine lv_iinc (v := (nI (i + 1))) (lv' := [(3, .int (nI (i + 1))), (0, .ref mx), (1, .int (nI r)), (2, .int (nI a))]) hx hb d_M_copy_30 hl (k := 3) rfl (by exact nI_1 i) (by decide) rfl (fun ls hl => ?_)
      refine lv_goto (tgt := 2) hx hb d_M_copy_33 (by decide) ?_
      exact ih (i + 1) (by omega) _ _ _ hP hD hS (lv_sub hl [1, 2, 3, 0] rfl)
set_option maxHeartbeats 4000000 in
set_option maxRecDepth 100000 in
/-- register r becomes register a -/
theorem c_M_copy (l : Launch) (dC : Nat → ClassId) (dI : Nat → Nat → Nat) (mx : Nat) (th : Int32) (sd : Int64) (nt : Int32) (ro : Nat) (pl : Nat) (vl : Nat) (f : Nat) (pa : Nat) (pr : Nat) (cL : ClassId) (g : Nat → Int64) (r a : Nat) (hr9 : r < 10) (ha9 : a < 10) (sz : Nat) : ct_V l y_M_copy w_M_copy { frames := 0, cells := 0, slots := 0, locals := 0 } (dC, dI) cl9 [(cL, .long)] ct_G0 [.ref mx, .int (nI r), .int (nI a)] [(mx, .inr (4, [.int th, .long sd, .int nt, .ref ro, .ref pl, .ref vl, .int (nI f), .ref pa, .ref pr])), (pa, .inl (cL, 240, .inr (.inl g)))] sz (S := Nat → Int64) (fun u : Nat → Int64 => u = md_cp r a g 24) (fun _ : Nat → Int64 => [(cL, .long)]) (fun u : Nat → Int64 => [(mx, .inr (4, [.int th, .long sd, .int nt, .ref ro, .ref pl, .ref vl, .int (nI f), .ref pa, .ref pr])), (pa, .inl (cL, 240, .inr (.inl u)))]) 0 0 := by
  refine ct_of (Qf := fun A => va_Qv (fun u : Nat → Int64 => u = md_cp r a g 24) (ct_B (S := Nat → Int64) (dC, dI) cl9 (fun _ : Nat → Int64 => [(cL, .long)]) A (fun u : Nat → Int64 => [(mx, .inr (4, [.int th, .long sd, .int nt, .ref ro, .ref pl, .ref vl, .int (nI f), .ref pa, .ref pr])), (pa, .inl (cL, 240, .inr (.inl u)))])) A) (cc := b_M_copy) (maxL := 4) (ret := none) (by decide) rfl (Nat.le_of_ble_eq_true rfl) ?_
  intro p e s m below meth c A ls hF hA hP hK hD hG hS hl
  obtain ⟨hx, hb, hr, hml, hts, hown, hlocks, hnm⟩ := id hF
  have hown : s.vm.findClass R_M = some m.cls := hown
  have ha : ∀ w ∈ al_M, w.before [.ref mx, .int (nI r), .int (nI a)].toArray s = true := fun w h => hts w (List.mem_cons_of_mem _ h)
  have hl : lv_has ls 4 [(0, .ref mx), (1, .int (nI r)), (2, .int (nI a))] := hl
  refine lv_iconst (v := 0) hx hb d_M_copy_0 (by decide) ?_
  refine lv_istore_n (lv' := [(3, .int 0), (0, .ref mx), (1, .int (nI r)), (2, .int (nI a))]) hx hb d_M_copy_1 rfl hl (by decide) rfl (fun ls hl => ?_)
  refine lp_M_copy (mx := mx) (th := th) (sd := sd) (nt := nt) (ro := ro) (pl := pl) (vl := vl) (f := f) (pa := pa) (pr := pr) (cL := cL) (g := g) (r := r) (a := a) hF hA hK hr9 ha9 (fun H locs ls hP hD hS hl => ?_) 24 0 (by omega) _ _ _ hP hD hS (lv_sub hl [1, 2, 3, 0] rfl)
  exact ct_vret hF d_M_copy_36 (md_cp r a g 24) rfl (hP.sub [0, 1] rfl) (hD.sub [0, 1] (by decide) rfl) hK hS
set_option maxHeartbeats 4000000 in
set_option maxRecDepth 100000 in
/-- times's loop -/
theorem lp_M_times {p : Program} {l : Launch} {e : Env} {R : Room} {s : State} {m : MethodId} {args : Array Value} {below : List Frame} {meth : Method} {c : Code} {Q : State → Prop} {A : Nat → Prop} {cells slots : Nat} {dC : Nat → ClassId} {dI : Nat → Nat → Nat} {mx : Nat} {th : Int32} {sd : Int64} {nt : Int32} {ro : Nat} {pl : Nat} {vl : Nat} {f : Nat} {pa : Nat} {pr : Nat} {cL : ClassId} {g : Nat → Int64} {r : Nat} {m9 : Int64} (hF : ct_F p s m meth c b_M_times none 9 w_M_times y_M_times args) (hA : ∀ q, s.heap.size ≤ q → A q) (hK : va_K (dC, dI) cl9 [(cL, .long)] s) (hr9 : r < 10)
    (K : ∀ (H : Heap) (locs : List Loc) (ls : Array Slot), va_P (dC, dI) cl9 [(mx, .inr (4, [.int th, .long sd, .int nt, .ref ro, .ref pl, .ref vl, .int (nI f), .ref pa, .ref pr])), (pa, .inl (cL, 240, .inr (.inl ((md_tim r m9 g 24).1))))] H → va_D A [(mx, .inr (4, [.int th, .long sd, .int nt, .ref ro, .ref pl, .ref vl, .int (nI f), .ref pa, .ref pr])), (pa, .inl (cL, 240, .inr (.inl ((md_tim r m9 g 24).1))))] → va_S A s.heap H locs → lv_has ls 9 [(0, .ref mx), (1, .int (nI r)), (2, .long m9), (4, .long ((md_tim r m9 g 24).2)), (6, .int (nI 24))] → W p l e R s m args below meth c H locs cells slots Q (F0 m 64 ls [])) :
    ∀ (n9 i : Nat), i + n9 = 24 → ∀ (H : Heap) (locs : List Loc) (ls : Array Slot), va_P (dC, dI) cl9 [(mx, .inr (4, [.int th, .long sd, .int nt, .ref ro, .ref pl, .ref vl, .int (nI f), .ref pa, .ref pr])), (pa, .inl (cL, 240, .inr (.inl ((md_tim r m9 g i).1))))] H → va_D A [(mx, .inr (4, [.int th, .long sd, .int nt, .ref ro, .ref pl, .ref vl, .int (nI f), .ref pa, .ref pr])), (pa, .inl (cL, 240, .inr (.inl ((md_tim r m9 g i).1))))] → va_S A s.heap H locs → lv_has ls 9 [(0, .ref mx), (1, .int (nI r)), (2, .long m9), (4, .long ((md_tim r m9 g i).2)), (6, .int (nI i))] → W p l e R s m args below meth c H locs cells slots Q (F0 m 6 ls []) := by
  obtain ⟨hx, hb, hr, hml, hts, hown, hlocks, hnm⟩ := id hF
  have hown : s.vm.findClass R_M = some m.cls := hown
  have ha : ∀ w ∈ al_M, w.before args s = true := fun w h => hts w (List.mem_cons_of_mem _ h)
  intro n9
  induction n9 with
  | zero =>
    intro i hi H locs ls hP hD hS hl
    obtain rfl : 24 = i := by omega
    refine lv_iload hx hb d_M_times_6 (lv_at hl 4 rfl) ?_
    refine lv_bipush (v := 24) hx hb d_M_times_8 (by decide) ?_
    refine lv_icmp_ge (tgt := 64) hx hb d_M_times_10 (by decide) (fun hc => ?_) (fun hc => ?_)
    · exact K _ _ _ hP hD hS (lv_sub hl [0, 1, 2, 3, 4] rfl)
    · exact absurd (show nI 24 ≤ nI 24 from nI_le (by omega) (by omega)) hc
  | succ n9 ih =>
    intro i hi H locs ls hP hD hS hl
    have hlt : i < 24 := by omega
    refine lv_iload hx hb d_M_times_6 (lv_at hl 4 rfl) ?_
    refine lv_bipush (v := 24) hx hb d_M_times_8 (by decide) ?_
    refine lv_icmp_ge (tgt := 64) hx hb d_M_times_10 (by decide) (fun hc => ?_) (fun hc => ?_)
    · exact absurd (show nI 24 ≤ nI i from hc) (nI_ge (by omega) (by omega))
    · refine lv_aload_n hx hb d_M_times_13 rfl (lv_at hl 0 rfl) ?_
      refine va_get (D := (dC, dI)) (ci := 4) (v := .ref pa) (C := R_M) (T := F_M) (N := 9) hx hb ha ui_M hown hK hP 0 rfl rfl 7 (by decide) (ha _ wm_M_12) (fun _ h9 => h9) rfl d_M_times_14 ?_
      refine lv_bipush (v := 24) hx hb d_M_times_17 (by decide) ?_
      refine lv_iload_n hx hb d_M_times_19 rfl (lv_at hl 1 rfl) ?_
      refine lv_imul hx hb d_M_times_20 ?_
      refine lv_iload hx hb d_M_times_21 (lv_at hl 4 rfl) ?_
      refine lv_iadd hx hb d_M_times_23 ?_
      refine ct_lald hx hb hK hP 1 0 rfl rfl (24 * r + i) (md_ix r i) (by omega) (by omega) d_M_times_24 ?_
      refine lv_lload_n hx hb d_M_times_25 rfl (lv_at hl 2 rfl) ?_
      refine lv_lmul hx hb d_M_times_26 ?_
      refine lv_lload hx hb d_M_times_27 (lv_at hl 3 rfl) ?_
      refine lv_ladd hx hb d_M_times_29 ?_
      refine lv_lstore (lv' := [(7, .long (((((md_tim r m9 g i).1) (24 * r + i)) * m9) + ((md_tim r m9 g i).2))), (0, .ref mx), (1, .int (nI r)), (2, .long m9), (4, .long ((md_tim r m9 g i).2)), (6, .int (nI i))]) hx hb d_M_times_30 hl (by decide) rfl (fun ls hl => ?_)
      refine lv_aload_n hx hb d_M_times_32 rfl (lv_at hl 1 rfl) ?_
      refine va_get (D := (dC, dI)) (ci := 4) (v := .ref pa) (C := R_M) (T := F_M) (N := 9) hx hb ha ui_M hown hK hP 0 rfl rfl 7 (by decide) (ha _ wm_M_12) (fun _ h9 => h9) rfl d_M_times_33 ?_
      refine lv_bipush (v := 24) hx hb d_M_times_36 (by decide) ?_
      refine lv_iload_n hx hb d_M_times_38 rfl (lv_at hl 2 rfl) ?_
      refine lv_imul hx hb d_M_times_39 ?_
      refine lv_iload hx hb d_M_times_40 (lv_at hl 5 rfl) ?_
      refine lv_iadd hx hb d_M_times_42 ?_
      refine lv_lload hx hb d_M_times_43 (lv_at hl 0 rfl) ?_
      refine lv_ldc2 (v := 1000000) hx hb hown (ha _ wm_M_32) d_M_times_45 ?_
      refine lv_lrem hx hb d_M_times_48 (by decide) ?_
      refine ct_last hx hb hK hP hD hS 1 0 rfl rfl (24 * r + i) (md_ix r i) (by omega) (by omega) d_M_times_49 (fun H locs hP hD hS => ?_)
      have hP : va_P (dC, dI) cl9 [(mx, .inr (4, [.int th, .long sd, .int nt, .ref ro, .ref pl, .ref vl, .int (nI f), .ref pa, .ref pr])), (pa, .inl (cL, 240, .inr (.inl (vp_updL ((md_tim r m9 g i).1) (24 * r + i) ((((((md_tim r m9 g i).1) (24 * r + i)) * m9) + ((md_tim r m9 g i).2)) - (((((md_tim r m9 g i).1) (24 * r + i)) * m9) + ((md_tim r m9 g i).2)) / 1000000 * 1000000)))))] H := hP
      have hD : va_D A [(mx, .inr (4, [.int th, .long sd, .int nt, .ref ro, .ref pl, .ref vl, .int (nI f), .ref pa, .ref pr])), (pa, .inl (cL, 240, .inr (.inl (vp_updL ((md_tim r m9 g i).1) (24 * r + i) ((((((md_tim r m9 g i).1) (24 * r + i)) * m9) + ((md_tim r m9 g i).2)) - (((((md_tim r m9 g i).1) (24 * r + i)) * m9) + ((md_tim r m9 g i).2)) / 1000000 * 1000000)))))] := hD
      refine lv_lload hx hb d_M_times_50 (lv_at hl 0 rfl) ?_
      refine lv_ldc2 (v := 1000000) hx hb hown (ha _ wm_M_32) d_M_times_52 ?_
      refine lv_ldiv hx hb d_M_times_55 (by decide) ?_
      refine lv_lstore (lv' := [(4, .long ((((((md_tim r m9 g i).1) (24 * r + i)) * m9) + ((md_tim r m9 g i).2)) / 1000000)), (7, .long (((((md_tim r m9 g i).1) (24 * r + i)) * m9) + ((md_tim r m9 g i).2))), (0, .ref mx), (1, .int (nI r)), (2, .long m9), (6, .int (nI i))]) hx hb d_M_times_56 hl (by decide) rfl (fun ls hl => ?_)
      refine lv_iinc (v := (nI (i + 1))) (lv' := [(6, .int (nI (i + 1))), (4, .long ((((((md_tim r m9 g i).1) (24 * r + i)) * m9) + ((md_tim r m9 g i).2)) / 1000000)), (7, .long (((((md_tim r m9 g i).1) (24 * r + i)) * m9) + ((md_tim r m9 g i).2))), (0, .ref mx), (1, .int (nI r)), (2, .long m9)]) hx hb d_M_times_58 hl (k := 5) rfl (by exact nI_1 i) (by decide) rfl (fun ls hl => ?_)
      refine lv_goto (tgt := 6) hx hb d_M_times_61 (by decide) ?_
      exact ih (i + 1) (by omega) _ _ _ hP hD hS (lv_sub hl [3, 4, 5, 1, 0] rfl)
set_option maxHeartbeats 4000000 in
set_option maxRecDepth 100000 in
/-- register r times m9 -/
theorem c_M_times (l : Launch) (dC : Nat → ClassId) (dI : Nat → Nat → Nat) (mx : Nat) (th : Int32) (sd : Int64) (nt : Int32) (ro : Nat) (pl : Nat) (vl : Nat) (f : Nat) (pa : Nat) (pr : Nat) (cL : ClassId) (g : Nat → Int64) (r : Nat) (m9 : Int64) (hr9 : r < 10) (sz : Nat) : ct_V l y_M_times w_M_times { frames := 0, cells := 0, slots := 0, locals := 0 } (dC, dI) cl9 [(cL, .long)] ct_G0 [.ref mx, .int (nI r), .long m9] [(mx, .inr (4, [.int th, .long sd, .int nt, .ref ro, .ref pl, .ref vl, .int (nI f), .ref pa, .ref pr])), (pa, .inl (cL, 240, .inr (.inl g)))] sz (S := Nat → Int64) (fun u : Nat → Int64 => u = (md_tim r m9 g 24).1) (fun _ : Nat → Int64 => [(cL, .long)]) (fun u : Nat → Int64 => [(mx, .inr (4, [.int th, .long sd, .int nt, .ref ro, .ref pl, .ref vl, .int (nI f), .ref pa, .ref pr])), (pa, .inl (cL, 240, .inr (.inl u)))]) 0 0 := by
  refine ct_of (Qf := fun A => va_Qv (fun u : Nat → Int64 => u = (md_tim r m9 g 24).1) (ct_B (S := Nat → Int64) (dC, dI) cl9 (fun _ : Nat → Int64 => [(cL, .long)]) A (fun u : Nat → Int64 => [(mx, .inr (4, [.int th, .long sd, .int nt, .ref ro, .ref pl, .ref vl, .int (nI f), .ref pa, .ref pr])), (pa, .inl (cL, 240, .inr (.inl u)))])) A) (cc := b_M_times) (maxL := 9) (ret := none) (by decide) rfl (Nat.le_of_ble_eq_true rfl) ?_
  intro p e s m below meth c A ls hF hA hP hK hD hG hS hl
  obtain ⟨hx, hb, hr, hml, hts, hown, hlocks, hnm⟩ := id hF
  have hown : s.vm.findClass R_M = some m.cls := hown
  have ha : ∀ w ∈ al_M, w.before [.ref mx, .int (nI r), .long m9].toArray s = true := fun w h => hts w (List.mem_cons_of_mem _ h)
  have hl : lv_has ls 9 [(0, .ref mx), (1, .int (nI r)), (2, .long m9)] := hl
  refine lv_lconst (v := 0) hx hb d_M_times_0 (by decide) ?_
  refine lv_lstore (lv' := [(4, .long 0), (0, .ref mx), (1, .int (nI r)), (2, .long m9)]) hx hb d_M_times_1 hl (by decide) rfl (fun ls hl => ?_)
  refine lv_iconst (v := 0) hx hb d_M_times_3 (by decide) ?_
  refine lv_istore (lv' := [(6, .int 0), (4, .long 0), (0, .ref mx), (1, .int (nI r)), (2, .long m9)]) hx hb d_M_times_4 hl (by decide) rfl (fun ls hl => ?_)
  refine lp_M_times (mx := mx) (th := th) (sd := sd) (nt := nt) (ro := ro) (pl := pl) (vl := vl) (f := f) (pa := pa) (pr := pr) (cL := cL) (g := g) (r := r) (m9 := m9) hF hA hK hr9 (fun H locs ls hP hD hS hl => ?_) 24 0 (by omega) _ _ _ hP hD hS (lv_sub hl [2, 3, 4, 1, 0] rfl)
  exact ct_vret hF d_M_times_64 ((md_tim r m9 g 24).1) rfl (hP.sub [0, 1] rfl) (hD.sub [0, 1] (by decide) rfl) hK hS
set_option maxHeartbeats 4000000 in
set_option maxRecDepth 100000 in
/-- by's loop, from the highest part down -/
theorem lp_M_by {p : Program} {l : Launch} {e : Env} {R : Room} {s : State} {m : MethodId} {args : Array Value} {below : List Frame} {meth : Method} {c : Code} {Q : State → Prop} {A : Nat → Prop} {cells slots : Nat} {dC : Nat → ClassId} {dI : Nat → Nat → Nat} {mx : Nat} {th : Int32} {sd : Int64} {nt : Int32} {ro : Nat} {pl : Nat} {vl : Nat} {f : Nat} {pa : Nat} {pr : Nat} {cL : ClassId} {g : Nat → Int64} {r : Nat} {q : Int64} (hF : ct_F p s m meth c b_M_by none 9 w_M_by y_M_by args) (hA : ∀ q, s.heap.size ≤ q → A q) (hK : va_K (dC, dI) cl9 [(cL, .long)] s) (hr9 : r < 10) (hq : ¬ q = 0)
    (K : ∀ (H : Heap) (locs : List Loc) (ls : Array Slot), va_P (dC, dI) cl9 [(mx, .inr (4, [.int th, .long sd, .int nt, .ref ro, .ref pl, .ref vl, .int (nI f), .ref pa, .ref pr])), (pa, .inl (cL, 240, .inr (.inl ((md_by r q g 24).1))))] H → va_D A [(mx, .inr (4, [.int th, .long sd, .int nt, .ref ro, .ref pl, .ref vl, .int (nI f), .ref pa, .ref pr])), (pa, .inl (cL, 240, .inr (.inl ((md_by r q g 24).1))))] → va_S A s.heap H locs → lv_has ls 9 [(0, .ref mx), (1, .int (nI r)), (2, .long q), (4, .long ((md_by r q g 24).2)), (6, .int (nI 0 + (-1)))] → W p l e R s m args below meth c H locs cells slots Q (F0 m 61 ls [])) :
    ∀ (n9 i : Nat), i + n9 = 24 → ∀ (H : Heap) (locs : List Loc) (ls : Array Slot), va_P (dC, dI) cl9 [(mx, .inr (4, [.int th, .long sd, .int nt, .ref ro, .ref pl, .ref vl, .int (nI f), .ref pa, .ref pr])), (pa, .inl (cL, 240, .inr (.inl ((md_by r q g i).1))))] H → va_D A [(mx, .inr (4, [.int th, .long sd, .int nt, .ref ro, .ref pl, .ref vl, .int (nI f), .ref pa, .ref pr])), (pa, .inl (cL, 240, .inr (.inl ((md_by r q g i).1))))] → va_S A s.heap H locs → lv_has ls 9 [(0, .ref mx), (1, .int (nI r)), (2, .long q), (4, .long ((md_by r q g i).2)), (6, .int (nI n9 + (-1)))] → W p l e R s m args below meth c H locs cells slots Q (F0 m 7 ls []) := by
  obtain ⟨hx, hb, hr, hml, hts, hown, hlocks, hnm⟩ := id hF
  have hown : s.vm.findClass R_M = some m.cls := hown
  have ha : ∀ w ∈ al_M, w.before args s = true := fun w h => hts w (List.mem_cons_of_mem _ h)
  intro n9
  induction n9 with
  | zero =>
    intro i hi H locs ls hP hD hS hl
    obtain rfl : 24 = i := by omega
    refine lv_iload hx hb d_M_by_7 (lv_at hl 4 rfl) ?_
    refine lv_if_lt (tgt := 61) hx hb d_M_by_9 (by decide) (fun hc => ?_) (fun hc => ?_)
    · exact K _ _ _ hP hD hS (lv_sub hl [0, 1, 2, 3, 4] rfl)
    · exact absurd (by decide) hc
  | succ n9 ih =>
    intro i hi H locs ls hP hD hS hl
    have hlt : i < 24 := by omega
    obtain rfl : n9 = 23 - i := by omega
    rw [pk_m1] at hl
    refine lv_iload hx hb d_M_by_7 (lv_at hl 4 rfl) ?_
    refine lv_if_lt (tgt := 61) hx hb d_M_by_9 (by decide) (fun hc => ?_) (fun hc => ?_)
    · exact absurd hc (nI_pos (by omega))
    · refine lv_lload hx hb d_M_by_12 (lv_at hl 3 rfl) ?_
      refine lv_ldc2 (v := 1000000) hx hb hown (ha _ wm_M_32) d_M_by_14 ?_
      refine lv_lmul hx hb d_M_by_17 ?_
      refine lv_aload_n hx hb d_M_by_18 rfl (lv_at hl 0 rfl) ?_
      refine va_get (D := (dC, dI)) (ci := 4) (v := .ref pa) (C := R_M) (T := F_M) (N := 9) hx hb ha ui_M hown hK hP 0 rfl rfl 7 (by decide) (ha _ wm_M_12) (fun _ h9 => h9) rfl d_M_by_19 ?_
      refine lv_bipush (v := 24) hx hb d_M_by_22 (by decide) ?_
      refine lv_iload_n hx hb d_M_by_24 rfl (lv_at hl 1 rfl) ?_
      refine lv_imul hx hb d_M_by_25 ?_
      refine lv_iload hx hb d_M_by_26 (lv_at hl 4 rfl) ?_
      refine lv_iadd hx hb d_M_by_28 ?_
      refine ct_lald hx hb hK hP 1 0 rfl rfl (24 * r + (23 - i)) (md_ix r (23 - i)) (by omega) (by omega) d_M_by_29 ?_
      refine lv_ladd hx hb d_M_by_30 ?_
      refine lv_lstore (lv' := [(7, .long ((((md_by r q g i).2) * 1000000) + (((md_by r q g i).1) (24 * r + (23 - i))))), (0, .ref mx), (1, .int (nI r)), (2, .long q), (4, .long ((md_by r q g i).2)), (6, .int (nI (23 - i)))]) hx hb d_M_by_31 hl (by decide) rfl (fun ls hl => ?_)
      refine lv_aload_n hx hb d_M_by_33 rfl (lv_at hl 1 rfl) ?_
      refine va_get (D := (dC, dI)) (ci := 4) (v := .ref pa) (C := R_M) (T := F_M) (N := 9) hx hb ha ui_M hown hK hP 0 rfl rfl 7 (by decide) (ha _ wm_M_12) (fun _ h9 => h9) rfl d_M_by_34 ?_
      refine lv_bipush (v := 24) hx hb d_M_by_37 (by decide) ?_
      refine lv_iload_n hx hb d_M_by_39 rfl (lv_at hl 2 rfl) ?_
      refine lv_imul hx hb d_M_by_40 ?_
      refine lv_iload hx hb d_M_by_41 (lv_at hl 5 rfl) ?_
      refine lv_iadd hx hb d_M_by_43 ?_
      refine lv_lload hx hb d_M_by_44 (lv_at hl 0 rfl) ?_
      refine lv_lload_n hx hb d_M_by_46 rfl (lv_at hl 3 rfl) ?_
      refine lv_ldiv hx hb d_M_by_47 hq ?_
      refine ct_last hx hb hK hP hD hS 1 0 rfl rfl (24 * r + (23 - i)) (md_ix r (23 - i)) (by omega) (by omega) d_M_by_48 (fun H locs hP hD hS => ?_)
      have hP : va_P (dC, dI) cl9 [(mx, .inr (4, [.int th, .long sd, .int nt, .ref ro, .ref pl, .ref vl, .int (nI f), .ref pa, .ref pr])), (pa, .inl (cL, 240, .inr (.inl (vp_updL ((md_by r q g i).1) (24 * r + (23 - i)) (((((md_by r q g i).2) * 1000000) + (((md_by r q g i).1) (24 * r + (23 - i)))) / q)))))] H := hP
      have hD : va_D A [(mx, .inr (4, [.int th, .long sd, .int nt, .ref ro, .ref pl, .ref vl, .int (nI f), .ref pa, .ref pr])), (pa, .inl (cL, 240, .inr (.inl (vp_updL ((md_by r q g i).1) (24 * r + (23 - i)) (((((md_by r q g i).2) * 1000000) + (((md_by r q g i).1) (24 * r + (23 - i)))) / q)))))] := hD
      refine lv_lload hx hb d_M_by_49 (lv_at hl 0 rfl) ?_
      refine lv_lload_n hx hb d_M_by_51 rfl (lv_at hl 3 rfl) ?_
      refine lv_lrem hx hb d_M_by_52 hq ?_
      refine lv_lstore (lv' := [(4, .long (((((md_by r q g i).2) * 1000000) + (((md_by r q g i).1) (24 * r + (23 - i)))) - ((((md_by r q g i).2) * 1000000) + (((md_by r q g i).1) (24 * r + (23 - i)))) / q * q)), (7, .long ((((md_by r q g i).2) * 1000000) + (((md_by r q g i).1) (24 * r + (23 - i))))), (0, .ref mx), (1, .int (nI r)), (2, .long q), (6, .int (nI (23 - i)))]) hx hb d_M_by_53 hl (by decide) rfl (fun ls hl => ?_)
      refine lv_iinc (v := ((nI (23 - i)) + (-1))) (lv' := [(6, .int ((nI (23 - i)) + (-1))), (4, .long (((((md_by r q g i).2) * 1000000) + (((md_by r q g i).1) (24 * r + (23 - i)))) - ((((md_by r q g i).2) * 1000000) + (((md_by r q g i).1) (24 * r + (23 - i)))) / q * q)), (7, .long ((((md_by r q g i).2) * 1000000) + (((md_by r q g i).1) (24 * r + (23 - i))))), (0, .ref mx), (1, .int (nI r)), (2, .long q)]) hx hb d_M_by_55 hl (k := 5) rfl (rfl) (by decide) rfl (fun ls hl => ?_)
      refine lv_goto (tgt := 7) hx hb d_M_by_58 (by decide) ?_
      exact ih (i + 1) (by omega) _ _ _ hP hD hS (lv_sub hl [3, 4, 5, 1, 0] rfl)
set_option maxHeartbeats 4000000 in
set_option maxRecDepth 100000 in
/-- register r over q -/
theorem c_M_by (l : Launch) (dC : Nat → ClassId) (dI : Nat → Nat → Nat) (mx : Nat) (th : Int32) (sd : Int64) (nt : Int32) (ro : Nat) (pl : Nat) (vl : Nat) (f : Nat) (pa : Nat) (pr : Nat) (cL : ClassId) (g : Nat → Int64) (r : Nat) (q : Int64) (hr9 : r < 10) (hq : ¬ q = 0) (sz : Nat) : ct_V l y_M_by w_M_by { frames := 0, cells := 0, slots := 0, locals := 0 } (dC, dI) cl9 [(cL, .long)] ct_G0 [.ref mx, .int (nI r), .long q] [(mx, .inr (4, [.int th, .long sd, .int nt, .ref ro, .ref pl, .ref vl, .int (nI f), .ref pa, .ref pr])), (pa, .inl (cL, 240, .inr (.inl g)))] sz (S := Nat → Int64) (fun u : Nat → Int64 => u = (md_by r q g 24).1) (fun _ : Nat → Int64 => [(cL, .long)]) (fun u : Nat → Int64 => [(mx, .inr (4, [.int th, .long sd, .int nt, .ref ro, .ref pl, .ref vl, .int (nI f), .ref pa, .ref pr])), (pa, .inl (cL, 240, .inr (.inl u)))]) 0 0 := by
  refine ct_of (Qf := fun A => va_Qv (fun u : Nat → Int64 => u = (md_by r q g 24).1) (ct_B (S := Nat → Int64) (dC, dI) cl9 (fun _ : Nat → Int64 => [(cL, .long)]) A (fun u : Nat → Int64 => [(mx, .inr (4, [.int th, .long sd, .int nt, .ref ro, .ref pl, .ref vl, .int (nI f), .ref pa, .ref pr])), (pa, .inl (cL, 240, .inr (.inl u)))])) A) (cc := b_M_by) (maxL := 9) (ret := none) (by decide) rfl (Nat.le_of_ble_eq_true rfl) ?_
  intro p e s m below meth c A ls hF hA hP hK hD hG hS hl
  obtain ⟨hx, hb, hr, hml, hts, hown, hlocks, hnm⟩ := id hF
  have hown : s.vm.findClass R_M = some m.cls := hown
  have ha : ∀ w ∈ al_M, w.before [.ref mx, .int (nI r), .long q].toArray s = true := fun w h => hts w (List.mem_cons_of_mem _ h)
  have hl : lv_has ls 9 [(0, .ref mx), (1, .int (nI r)), (2, .long q)] := hl
  refine lv_lconst (v := 0) hx hb d_M_by_0 (by decide) ?_
  refine lv_lstore (lv' := [(4, .long 0), (0, .ref mx), (1, .int (nI r)), (2, .long q)]) hx hb d_M_by_1 hl (by decide) rfl (fun ls hl => ?_)
  refine lv_bipush (v := 23) hx hb d_M_by_3 (by decide) ?_
  refine lv_istore (lv' := [(6, .int 23), (4, .long 0), (0, .ref mx), (1, .int (nI r)), (2, .long q)]) hx hb d_M_by_5 hl (by decide) rfl (fun ls hl => ?_)
  refine lp_M_by (mx := mx) (th := th) (sd := sd) (nt := nt) (ro := ro) (pl := pl) (vl := vl) (f := f) (pa := pa) (pr := pr) (cL := cL) (g := g) (r := r) (q := q) hF hA hK hr9 hq (fun H locs ls hP hD hS hl => ?_) 24 0 (by omega) _ _ _ hP hD hS (lv_sub hl [2, 3, 4, 1, 0] rfl)
  exact ct_vret hF d_M_by_61 ((md_by r q g 24).1) rfl (hP.sub [0, 1] rfl) (hD.sub [0, 1] (by decide) rfl) hK hS
set_option maxHeartbeats 4000000 in
set_option maxRecDepth 100000 in
/-- add's loop -/
theorem lp_M_add {p : Program} {l : Launch} {e : Env} {R : Room} {s : State} {m : MethodId} {args : Array Value} {below : List Frame} {meth : Method} {c : Code} {Q : State → Prop} {A : Nat → Prop} {cells slots : Nat} {dC : Nat → ClassId} {dI : Nat → Nat → Nat} {mx : Nat} {th : Int32} {sd : Int64} {nt : Int32} {ro : Nat} {pl : Nat} {vl : Nat} {f : Nat} {pa : Nat} {pr : Nat} {cL : ClassId} {g : Nat → Int64} {r : Nat} {a : Nat} (hF : ct_F p s m meth c b_M_add none 8 w_M_add y_M_add args) (hA : ∀ q, s.heap.size ≤ q → A q) (hK : va_K (dC, dI) cl9 [(cL, .long)] s) (hr9 : r < 10) (ha9 : a < 10)
    (K : ∀ (H : Heap) (locs : List Loc) (ls : Array Slot), va_P (dC, dI) cl9 [(mx, .inr (4, [.int th, .long sd, .int nt, .ref ro, .ref pl, .ref vl, .int (nI f), .ref pa, .ref pr])), (pa, .inl (cL, 240, .inr (.inl ((md_add r a g 24).1))))] H → va_D A [(mx, .inr (4, [.int th, .long sd, .int nt, .ref ro, .ref pl, .ref vl, .int (nI f), .ref pa, .ref pr])), (pa, .inl (cL, 240, .inr (.inl ((md_add r a g 24).1))))] → va_S A s.heap H locs → lv_has ls 8 [(0, .ref mx), (1, .int (nI r)), (2, .int (nI a)), (3, .long ((md_add r a g 24).2)), (5, .int (nI 24))] → W p l e R s m args below meth c H locs cells slots Q (F0 m 82 ls [])) :
    ∀ (n9 i : Nat), i + n9 = 24 → ∀ (H : Heap) (locs : List Loc) (ls : Array Slot), va_P (dC, dI) cl9 [(mx, .inr (4, [.int th, .long sd, .int nt, .ref ro, .ref pl, .ref vl, .int (nI f), .ref pa, .ref pr])), (pa, .inl (cL, 240, .inr (.inl ((md_add r a g i).1))))] H → va_D A [(mx, .inr (4, [.int th, .long sd, .int nt, .ref ro, .ref pl, .ref vl, .int (nI f), .ref pa, .ref pr])), (pa, .inl (cL, 240, .inr (.inl ((md_add r a g i).1))))] → va_S A s.heap H locs → lv_has ls 8 [(0, .ref mx), (1, .int (nI r)), (2, .int (nI a)), (3, .long ((md_add r a g i).2)), (5, .int (nI i))] → W p l e R s m args below meth c H locs cells slots Q (F0 m 5 ls []) := by
  obtain ⟨hx, hb, hr, hml, hts, hown, hlocks, hnm⟩ := id hF
  have hown : s.vm.findClass R_M = some m.cls := hown
  have ha : ∀ w ∈ al_M, w.before args s = true := fun w h => hts w (List.mem_cons_of_mem _ h)
  intro n9
  induction n9 with
  | zero =>
    intro i hi H locs ls hP hD hS hl
    obtain rfl : 24 = i := by omega
    refine lv_iload hx hb d_M_add_5 (lv_at hl 4 rfl) ?_
    refine lv_bipush (v := 24) hx hb d_M_add_7 (by decide) ?_
    refine lv_icmp_ge (tgt := 82) hx hb d_M_add_9 (by decide) (fun hc => ?_) (fun hc => ?_)
    · exact K _ _ _ hP hD hS (lv_sub hl [0, 1, 2, 3, 4] rfl)
    · exact absurd (show nI 24 ≤ nI 24 from nI_le (by omega) (by omega)) hc
  | succ n9 ih =>
    intro i hi H locs ls hP hD hS hl
    have hlt : i < 24 := by omega
    refine lv_iload hx hb d_M_add_5 (lv_at hl 4 rfl) ?_
    refine lv_bipush (v := 24) hx hb d_M_add_7 (by decide) ?_
    refine lv_icmp_ge (tgt := 82) hx hb d_M_add_9 (by decide) (fun hc => ?_) (fun hc => ?_)
    · exact absurd (show nI 24 ≤ nI i from hc) (nI_ge (by omega) (by omega))
    · refine lv_aload_n hx hb d_M_add_12 rfl (lv_at hl 0 rfl) ?_
      refine va_get (D := (dC, dI)) (ci := 4) (v := .ref pa) (C := R_M) (T := F_M) (N := 9) hx hb ha ui_M hown hK hP 0 rfl rfl 7 (by decide) (ha _ wm_M_12) (fun _ h9 => h9) rfl d_M_add_13 ?_
      refine lv_bipush (v := 24) hx hb d_M_add_16 (by decide) ?_
      refine lv_iload_n hx hb d_M_add_18 rfl (lv_at hl 1 rfl) ?_
      refine lv_imul hx hb d_M_add_19 ?_
      refine lv_iload hx hb d_M_add_20 (lv_at hl 4 rfl) ?_
      refine lv_iadd hx hb d_M_add_22 ?_
      refine ct_lald hx hb hK hP 1 0 rfl rfl (24 * r + i) (md_ix r i) (by omega) (by omega) d_M_add_23 ?_
      refine lv_aload_n hx hb d_M_add_24 rfl (lv_at hl 0 rfl) ?_
      refine va_get (D := (dC, dI)) (ci := 4) (v := .ref pa) (C := R_M) (T := F_M) (N := 9) hx hb ha ui_M hown hK hP 0 rfl rfl 7 (by decide) (ha _ wm_M_12) (fun _ h9 => h9) rfl d_M_add_25 ?_
      refine lv_bipush (v := 24) hx hb d_M_add_28 (by decide) ?_
      refine lv_iload_n hx hb d_M_add_30 rfl (lv_at hl 2 rfl) ?_
      refine lv_imul hx hb d_M_add_31 ?_
      refine lv_iload hx hb d_M_add_32 (lv_at hl 4 rfl) ?_
      refine lv_iadd hx hb d_M_add_34 ?_
      refine ct_lald hx hb hK hP 1 0 rfl rfl (24 * a + i) (md_ix a i) (by omega) (by omega) d_M_add_35 ?_
      refine lv_ladd hx hb d_M_add_36 ?_
      refine lv_lload_n hx hb d_M_add_37 rfl (lv_at hl 3 rfl) ?_
      refine lv_ladd hx hb d_M_add_38 ?_
      refine lv_lstore (lv' := [(6, .long (((((md_add r a g i).1) (24 * r + i)) + (((md_add r a g i).1) (24 * a + i))) + ((md_add r a g i).2))), (0, .ref mx), (1, .int (nI r)), (2, .int (nI a)), (3, .long ((md_add r a g i).2)), (5, .int (nI i))]) hx hb d_M_add_39 hl (by decide) rfl (fun ls hl => ?_)
      refine lv_lload hx hb d_M_add_41 (lv_at hl 0 rfl) ?_
      refine lv_ldc2 (v := 1000000) hx hb hown (ha _ wm_M_32) d_M_add_43 ?_
      refine ct_jlt (tgt := 54) hx hb d_M_add_46 d_M_add_47 (by decide) (fun hv => ?_) (fun hv => ?_)
      · have hl : lv_has ls 8 [(6, .long (md_av r a (md_add r a g i) i)), (0, .ref mx), (1, .int (nI r)), (2, .int (nI a)), (3, .long ((md_add r a g i).2)), (5, .int (nI i))] := hl
        have e8 : md_ao (md_av r a (md_add r a g i) i) = _ := if_pos hv
        refine lv_lconst (v := 0) hx hb d_M_add_54 (by decide) ?_
        rw [show (0 : Int64) = md_ao (md_av r a (md_add r a g i) i) from e8.symm]
        refine lv_lstore_n (lv' := [(3, .long (md_ao (md_av r a (md_add r a g i) i))), (6, .long (md_av r a (md_add r a g i) i)), (0, .ref mx), (1, .int (nI r)), (2, .int (nI a)), (5, .int (nI i))]) hx hb d_M_add_55 rfl hl (by decide) rfl (fun ls hl => ?_)
        refine lv_aload_n hx hb d_M_add_56 rfl (lv_at hl 2 rfl) ?_
        refine va_get (D := (dC, dI)) (ci := 4) (v := .ref pa) (C := R_M) (T := F_M) (N := 9) hx hb ha ui_M hown hK hP 0 rfl rfl 7 (by decide) (ha _ wm_M_12) (fun _ h9 => h9) rfl d_M_add_57 ?_
        refine lv_bipush (v := 24) hx hb d_M_add_60 (by decide) ?_
        refine lv_iload_n hx hb d_M_add_62 rfl (lv_at hl 3 rfl) ?_
        refine lv_imul hx hb d_M_add_63 ?_
        refine lv_iload hx hb d_M_add_64 (lv_at hl 5 rfl) ?_
        refine lv_iadd hx hb d_M_add_66 ?_
        refine lv_lload hx hb d_M_add_67 (lv_at hl 1 rfl) ?_
        refine lv_lload_n hx hb d_M_add_69 rfl (lv_at hl 0 rfl) ?_
        refine lv_ldc2 (v := 1000000) hx hb hown (ha _ wm_M_32) d_M_add_70 ?_
        refine lv_lmul hx hb d_M_add_73 ?_
        refine lv_lsub hx hb d_M_add_74 ?_
        refine ct_last hx hb hK hP hD hS 1 0 rfl rfl (24 * r + i) (md_ix r i) (by omega) (by omega) d_M_add_75 (fun H locs hP hD hS => ?_)
        have hP : va_P (dC, dI) cl9 [(mx, .inr (4, [.int th, .long sd, .int nt, .ref ro, .ref pl, .ref vl, .int (nI f), .ref pa, .ref pr])), (pa, .inl (cL, 240, .inr (.inl (vp_updL ((md_add r a g i).1) (24 * r + i) ((md_av r a (md_add r a g i) i) - ((md_ao (md_av r a (md_add r a g i) i)) * 1000000))))))] H := hP
        have hD : va_D A [(mx, .inr (4, [.int th, .long sd, .int nt, .ref ro, .ref pl, .ref vl, .int (nI f), .ref pa, .ref pr])), (pa, .inl (cL, 240, .inr (.inl (vp_updL ((md_add r a g i).1) (24 * r + i) ((md_av r a (md_add r a g i) i) - ((md_ao (md_av r a (md_add r a g i) i)) * 1000000))))))] := hD
        refine lv_iinc (v := (nI (i + 1))) (lv' := [(5, .int (nI (i + 1))), (3, .long (md_ao (md_av r a (md_add r a g i) i))), (6, .long (md_av r a (md_add r a g i) i)), (0, .ref mx), (1, .int (nI r)), (2, .int (nI a))]) hx hb d_M_add_76 hl (k := 5) rfl (by exact nI_1 i) (by decide) rfl (fun ls hl => ?_)
        refine lv_goto (tgt := 5) hx hb d_M_add_79 (by decide) ?_
        exact ih (i + 1) (by omega) _ _ _ hP hD hS (lv_sub hl [3, 4, 5, 1, 0] rfl)
      · have hl : lv_has ls 8 [(6, .long (md_av r a (md_add r a g i) i)), (0, .ref mx), (1, .int (nI r)), (2, .int (nI a)), (3, .long ((md_add r a g i).2)), (5, .int (nI i))] := hl
        have e8 : md_ao (md_av r a (md_add r a g i) i) = _ := if_neg hv
        refine lv_lconst (v := 1) hx hb d_M_add_50 (by decide) ?_
        refine lv_goto (tgt := 55) hx hb d_M_add_51 (by decide) ?_
        rw [show (1 : Int64) = md_ao (md_av r a (md_add r a g i) i) from e8.symm]
        refine lv_lstore_n (lv' := [(3, .long (md_ao (md_av r a (md_add r a g i) i))), (6, .long (md_av r a (md_add r a g i) i)), (0, .ref mx), (1, .int (nI r)), (2, .int (nI a)), (5, .int (nI i))]) hx hb d_M_add_55 rfl hl (by decide) rfl (fun ls hl => ?_)
        refine lv_aload_n hx hb d_M_add_56 rfl (lv_at hl 2 rfl) ?_
        refine va_get (D := (dC, dI)) (ci := 4) (v := .ref pa) (C := R_M) (T := F_M) (N := 9) hx hb ha ui_M hown hK hP 0 rfl rfl 7 (by decide) (ha _ wm_M_12) (fun _ h9 => h9) rfl d_M_add_57 ?_
        refine lv_bipush (v := 24) hx hb d_M_add_60 (by decide) ?_
        refine lv_iload_n hx hb d_M_add_62 rfl (lv_at hl 3 rfl) ?_
        refine lv_imul hx hb d_M_add_63 ?_
        refine lv_iload hx hb d_M_add_64 (lv_at hl 5 rfl) ?_
        refine lv_iadd hx hb d_M_add_66 ?_
        refine lv_lload hx hb d_M_add_67 (lv_at hl 1 rfl) ?_
        refine lv_lload_n hx hb d_M_add_69 rfl (lv_at hl 0 rfl) ?_
        refine lv_ldc2 (v := 1000000) hx hb hown (ha _ wm_M_32) d_M_add_70 ?_
        refine lv_lmul hx hb d_M_add_73 ?_
        refine lv_lsub hx hb d_M_add_74 ?_
        refine ct_last hx hb hK hP hD hS 1 0 rfl rfl (24 * r + i) (md_ix r i) (by omega) (by omega) d_M_add_75 (fun H locs hP hD hS => ?_)
        have hP : va_P (dC, dI) cl9 [(mx, .inr (4, [.int th, .long sd, .int nt, .ref ro, .ref pl, .ref vl, .int (nI f), .ref pa, .ref pr])), (pa, .inl (cL, 240, .inr (.inl (vp_updL ((md_add r a g i).1) (24 * r + i) ((md_av r a (md_add r a g i) i) - ((md_ao (md_av r a (md_add r a g i) i)) * 1000000))))))] H := hP
        have hD : va_D A [(mx, .inr (4, [.int th, .long sd, .int nt, .ref ro, .ref pl, .ref vl, .int (nI f), .ref pa, .ref pr])), (pa, .inl (cL, 240, .inr (.inl (vp_updL ((md_add r a g i).1) (24 * r + i) ((md_av r a (md_add r a g i) i) - ((md_ao (md_av r a (md_add r a g i) i)) * 1000000))))))] := hD
        refine lv_iinc (v := (nI (i + 1))) (lv' := [(5, .int (nI (i + 1))), (3, .long (md_ao (md_av r a (md_add r a g i) i))), (6, .long (md_av r a (md_add r a g i) i)), (0, .ref mx), (1, .int (nI r)), (2, .int (nI a))]) hx hb d_M_add_76 hl (k := 5) rfl (by exact nI_1 i) (by decide) rfl (fun ls hl => ?_)
        refine lv_goto (tgt := 5) hx hb d_M_add_79 (by decide) ?_
        exact ih (i + 1) (by omega) _ _ _ hP hD hS (lv_sub hl [3, 4, 5, 1, 0] rfl)
set_option maxHeartbeats 4000000 in
set_option maxRecDepth 100000 in
/-- registers: add -/
theorem c_M_add (l : Launch) (dC : Nat → ClassId) (dI : Nat → Nat → Nat) (mx : Nat) (th : Int32) (sd : Int64) (nt : Int32) (ro : Nat) (pl : Nat) (vl : Nat) (f : Nat) (pa : Nat) (pr : Nat) (cL : ClassId) (g : Nat → Int64) (r : Nat) (a : Nat) (hr9 : r < 10) (ha9 : a < 10) (sz : Nat) : ct_V l y_M_add w_M_add { frames := 0, cells := 0, slots := 0, locals := 0 } (dC, dI) cl9 [(cL, .long)] ct_G0 [.ref mx, .int (nI r), .int (nI a)] [(mx, .inr (4, [.int th, .long sd, .int nt, .ref ro, .ref pl, .ref vl, .int (nI f), .ref pa, .ref pr])), (pa, .inl (cL, 240, .inr (.inl g)))] sz (S := Nat → Int64) (fun u : Nat → Int64 => u = (md_add r a g 24).1) (fun _ : Nat → Int64 => [(cL, .long)]) (fun u : Nat → Int64 => [(mx, .inr (4, [.int th, .long sd, .int nt, .ref ro, .ref pl, .ref vl, .int (nI f), .ref pa, .ref pr])), (pa, .inl (cL, 240, .inr (.inl u)))]) 0 0 := by
  refine ct_of (Qf := fun A => va_Qv (fun u : Nat → Int64 => u = (md_add r a g 24).1) (ct_B (S := Nat → Int64) (dC, dI) cl9 (fun _ : Nat → Int64 => [(cL, .long)]) A (fun u : Nat → Int64 => [(mx, .inr (4, [.int th, .long sd, .int nt, .ref ro, .ref pl, .ref vl, .int (nI f), .ref pa, .ref pr])), (pa, .inl (cL, 240, .inr (.inl u)))])) A) (cc := b_M_add) (maxL := 8) (ret := none) (by decide) rfl (Nat.le_of_ble_eq_true rfl) ?_
  intro p e s m below meth c A ls hF hA hP hK hD hG hS hl
  obtain ⟨hx, hb, hr, hml, hts, hown, hlocks, hnm⟩ := id hF
  have hown : s.vm.findClass R_M = some m.cls := hown
  have ha : ∀ w ∈ al_M, w.before [.ref mx, .int (nI r), .int (nI a)].toArray s = true := fun w h => hts w (List.mem_cons_of_mem _ h)
  have hl : lv_has ls 8 [(0, .ref mx), (1, .int (nI r)), (2, .int (nI a))] := hl
  refine lv_lconst (v := 0) hx hb d_M_add_0 (by decide) ?_
  refine lv_lstore_n (lv' := [(3, .long 0), (0, .ref mx), (1, .int (nI r)), (2, .int (nI a))]) hx hb d_M_add_1 rfl hl (by decide) rfl (fun ls hl => ?_)
  refine lv_iconst (v := 0) hx hb d_M_add_2 (by decide) ?_
  refine lv_istore (lv' := [(5, .int 0), (3, .long 0), (0, .ref mx), (1, .int (nI r)), (2, .int (nI a))]) hx hb d_M_add_3 hl (by decide) rfl (fun ls hl => ?_)
  refine lp_M_add (mx := mx) (th := th) (sd := sd) (nt := nt) (ro := ro) (pl := pl) (vl := vl) (f := f) (pa := pa) (pr := pr) (cL := cL) (g := g) (r := r) (a := a) hF hA hK hr9 ha9 (fun H locs ls hP hD hS hl => ?_) 24 0 (by omega) _ _ _ hP hD hS (lv_sub hl [2, 3, 4, 1, 0] rfl)
  exact ct_vret hF d_M_add_82 ((md_add r a g 24).1) rfl (hP.sub [0, 1] rfl) (hD.sub [0, 1] (by decide) rfl) hK hS
set_option maxHeartbeats 4000000 in
set_option maxRecDepth 100000 in
/-- less's loop -/
theorem lp_M_less {p : Program} {l : Launch} {e : Env} {R : Room} {s : State} {m : MethodId} {args : Array Value} {below : List Frame} {meth : Method} {c : Code} {Q : State → Prop} {A : Nat → Prop} {cells slots : Nat} {dC : Nat → ClassId} {dI : Nat → Nat → Nat} {mx : Nat} {th : Int32} {sd : Int64} {nt : Int32} {ro : Nat} {pl : Nat} {vl : Nat} {f : Nat} {pa : Nat} {pr : Nat} {cL : ClassId} {g : Nat → Int64} {r : Nat} {a : Nat} (hF : ct_F p s m meth c b_M_less none 8 w_M_less y_M_less args) (hA : ∀ q, s.heap.size ≤ q → A q) (hK : va_K (dC, dI) cl9 [(cL, .long)] s) (hr9 : r < 10) (ha9 : a < 10)
    (K : ∀ (H : Heap) (locs : List Loc) (ls : Array Slot), va_P (dC, dI) cl9 [(mx, .inr (4, [.int th, .long sd, .int nt, .ref ro, .ref pl, .ref vl, .int (nI f), .ref pa, .ref pr])), (pa, .inl (cL, 240, .inr (.inl ((md_les r a g 24).1))))] H → va_D A [(mx, .inr (4, [.int th, .long sd, .int nt, .ref ro, .ref pl, .ref vl, .int (nI f), .ref pa, .ref pr])), (pa, .inl (cL, 240, .inr (.inl ((md_les r a g 24).1))))] → va_S A s.heap H locs → lv_has ls 8 [(0, .ref mx), (1, .int (nI r)), (2, .int (nI a)), (3, .long ((md_les r a g 24).2)), (5, .int (nI 24))] → W p l e R s m args below meth c H locs cells slots Q (F0 m 80 ls [])) :
    ∀ (n9 i : Nat), i + n9 = 24 → ∀ (H : Heap) (locs : List Loc) (ls : Array Slot), va_P (dC, dI) cl9 [(mx, .inr (4, [.int th, .long sd, .int nt, .ref ro, .ref pl, .ref vl, .int (nI f), .ref pa, .ref pr])), (pa, .inl (cL, 240, .inr (.inl ((md_les r a g i).1))))] H → va_D A [(mx, .inr (4, [.int th, .long sd, .int nt, .ref ro, .ref pl, .ref vl, .int (nI f), .ref pa, .ref pr])), (pa, .inl (cL, 240, .inr (.inl ((md_les r a g i).1))))] → va_S A s.heap H locs → lv_has ls 8 [(0, .ref mx), (1, .int (nI r)), (2, .int (nI a)), (3, .long ((md_les r a g i).2)), (5, .int (nI i))] → W p l e R s m args below meth c H locs cells slots Q (F0 m 5 ls []) := by
  obtain ⟨hx, hb, hr, hml, hts, hown, hlocks, hnm⟩ := id hF
  have hown : s.vm.findClass R_M = some m.cls := hown
  have ha : ∀ w ∈ al_M, w.before args s = true := fun w h => hts w (List.mem_cons_of_mem _ h)
  intro n9
  induction n9 with
  | zero =>
    intro i hi H locs ls hP hD hS hl
    obtain rfl : 24 = i := by omega
    refine lv_iload hx hb d_M_less_5 (lv_at hl 4 rfl) ?_
    refine lv_bipush (v := 24) hx hb d_M_less_7 (by decide) ?_
    refine lv_icmp_ge (tgt := 80) hx hb d_M_less_9 (by decide) (fun hc => ?_) (fun hc => ?_)
    · exact K _ _ _ hP hD hS (lv_sub hl [0, 1, 2, 3, 4] rfl)
    · exact absurd (show nI 24 ≤ nI 24 from nI_le (by omega) (by omega)) hc
  | succ n9 ih =>
    intro i hi H locs ls hP hD hS hl
    have hlt : i < 24 := by omega
    refine lv_iload hx hb d_M_less_5 (lv_at hl 4 rfl) ?_
    refine lv_bipush (v := 24) hx hb d_M_less_7 (by decide) ?_
    refine lv_icmp_ge (tgt := 80) hx hb d_M_less_9 (by decide) (fun hc => ?_) (fun hc => ?_)
    · exact absurd (show nI 24 ≤ nI i from hc) (nI_ge (by omega) (by omega))
    · refine lv_aload_n hx hb d_M_less_12 rfl (lv_at hl 0 rfl) ?_
      refine va_get (D := (dC, dI)) (ci := 4) (v := .ref pa) (C := R_M) (T := F_M) (N := 9) hx hb ha ui_M hown hK hP 0 rfl rfl 7 (by decide) (ha _ wm_M_12) (fun _ h9 => h9) rfl d_M_less_13 ?_
      refine lv_bipush (v := 24) hx hb d_M_less_16 (by decide) ?_
      refine lv_iload_n hx hb d_M_less_18 rfl (lv_at hl 1 rfl) ?_
      refine lv_imul hx hb d_M_less_19 ?_
      refine lv_iload hx hb d_M_less_20 (lv_at hl 4 rfl) ?_
      refine lv_iadd hx hb d_M_less_22 ?_
      refine ct_lald hx hb hK hP 1 0 rfl rfl (24 * r + i) (md_ix r i) (by omega) (by omega) d_M_less_23 ?_
      refine lv_aload_n hx hb d_M_less_24 rfl (lv_at hl 0 rfl) ?_
      refine va_get (D := (dC, dI)) (ci := 4) (v := .ref pa) (C := R_M) (T := F_M) (N := 9) hx hb ha ui_M hown hK hP 0 rfl rfl 7 (by decide) (ha _ wm_M_12) (fun _ h9 => h9) rfl d_M_less_25 ?_
      refine lv_bipush (v := 24) hx hb d_M_less_28 (by decide) ?_
      refine lv_iload_n hx hb d_M_less_30 rfl (lv_at hl 2 rfl) ?_
      refine lv_imul hx hb d_M_less_31 ?_
      refine lv_iload hx hb d_M_less_32 (lv_at hl 4 rfl) ?_
      refine lv_iadd hx hb d_M_less_34 ?_
      refine ct_lald hx hb hK hP 1 0 rfl rfl (24 * a + i) (md_ix a i) (by omega) (by omega) d_M_less_35 ?_
      refine lv_lsub hx hb d_M_less_36 ?_
      refine lv_lload_n hx hb d_M_less_37 rfl (lv_at hl 3 rfl) ?_
      refine lv_lsub hx hb d_M_less_38 ?_
      refine lv_lstore (lv' := [(6, .long (((((md_les r a g i).1) (24 * r + i)) - (((md_les r a g i).1) (24 * a + i))) - ((md_les r a g i).2))), (0, .ref mx), (1, .int (nI r)), (2, .int (nI a)), (3, .long ((md_les r a g i).2)), (5, .int (nI i))]) hx hb d_M_less_39 hl (by decide) rfl (fun ls hl => ?_)
      refine lv_lload hx hb d_M_less_41 (lv_at hl 0 rfl) ?_
      refine lv_lconst (v := 0) hx hb d_M_less_43 (by decide) ?_
      refine ct_jge (tgt := 52) hx hb d_M_less_44 d_M_less_45 (by decide) (fun hv => ?_) (fun hv => ?_)
      · have hl : lv_has ls 8 [(6, .long (md_lv r a (md_les r a g i) i)), (0, .ref mx), (1, .int (nI r)), (2, .int (nI a)), (3, .long ((md_les r a g i).2)), (5, .int (nI i))] := hl
        have e8 : md_lo (md_lv r a (md_les r a g i) i) = _ := if_pos hv
        refine lv_lconst (v := 0) hx hb d_M_less_52 (by decide) ?_
        rw [show (0 : Int64) = md_lo (md_lv r a (md_les r a g i) i) from e8.symm]
        refine lv_lstore_n (lv' := [(3, .long (md_lo (md_lv r a (md_les r a g i) i))), (6, .long (md_lv r a (md_les r a g i) i)), (0, .ref mx), (1, .int (nI r)), (2, .int (nI a)), (5, .int (nI i))]) hx hb d_M_less_53 rfl hl (by decide) rfl (fun ls hl => ?_)
        refine lv_aload_n hx hb d_M_less_54 rfl (lv_at hl 2 rfl) ?_
        refine va_get (D := (dC, dI)) (ci := 4) (v := .ref pa) (C := R_M) (T := F_M) (N := 9) hx hb ha ui_M hown hK hP 0 rfl rfl 7 (by decide) (ha _ wm_M_12) (fun _ h9 => h9) rfl d_M_less_55 ?_
        refine lv_bipush (v := 24) hx hb d_M_less_58 (by decide) ?_
        refine lv_iload_n hx hb d_M_less_60 rfl (lv_at hl 3 rfl) ?_
        refine lv_imul hx hb d_M_less_61 ?_
        refine lv_iload hx hb d_M_less_62 (lv_at hl 5 rfl) ?_
        refine lv_iadd hx hb d_M_less_64 ?_
        refine lv_lload hx hb d_M_less_65 (lv_at hl 1 rfl) ?_
        refine lv_lload_n hx hb d_M_less_67 rfl (lv_at hl 0 rfl) ?_
        refine lv_ldc2 (v := 1000000) hx hb hown (ha _ wm_M_32) d_M_less_68 ?_
        refine lv_lmul hx hb d_M_less_71 ?_
        refine lv_ladd hx hb d_M_less_72 ?_
        refine ct_last hx hb hK hP hD hS 1 0 rfl rfl (24 * r + i) (md_ix r i) (by omega) (by omega) d_M_less_73 (fun H locs hP hD hS => ?_)
        have hP : va_P (dC, dI) cl9 [(mx, .inr (4, [.int th, .long sd, .int nt, .ref ro, .ref pl, .ref vl, .int (nI f), .ref pa, .ref pr])), (pa, .inl (cL, 240, .inr (.inl (vp_updL ((md_les r a g i).1) (24 * r + i) ((md_lv r a (md_les r a g i) i) + ((md_lo (md_lv r a (md_les r a g i) i)) * 1000000))))))] H := hP
        have hD : va_D A [(mx, .inr (4, [.int th, .long sd, .int nt, .ref ro, .ref pl, .ref vl, .int (nI f), .ref pa, .ref pr])), (pa, .inl (cL, 240, .inr (.inl (vp_updL ((md_les r a g i).1) (24 * r + i) ((md_lv r a (md_les r a g i) i) + ((md_lo (md_lv r a (md_les r a g i) i)) * 1000000))))))] := hD
        refine lv_iinc (v := (nI (i + 1))) (lv' := [(5, .int (nI (i + 1))), (3, .long (md_lo (md_lv r a (md_les r a g i) i))), (6, .long (md_lv r a (md_les r a g i) i)), (0, .ref mx), (1, .int (nI r)), (2, .int (nI a))]) hx hb d_M_less_74 hl (k := 5) rfl (by exact nI_1 i) (by decide) rfl (fun ls hl => ?_)
        refine lv_goto (tgt := 5) hx hb d_M_less_77 (by decide) ?_
        exact ih (i + 1) (by omega) _ _ _ hP hD hS (lv_sub hl [3, 4, 5, 1, 0] rfl)
      · have hl : lv_has ls 8 [(6, .long (md_lv r a (md_les r a g i) i)), (0, .ref mx), (1, .int (nI r)), (2, .int (nI a)), (3, .long ((md_les r a g i).2)), (5, .int (nI i))] := hl
        have e8 : md_lo (md_lv r a (md_les r a g i) i) = _ := if_neg hv
        refine lv_lconst (v := 1) hx hb d_M_less_48 (by decide) ?_
        refine lv_goto (tgt := 53) hx hb d_M_less_49 (by decide) ?_
        rw [show (1 : Int64) = md_lo (md_lv r a (md_les r a g i) i) from e8.symm]
        refine lv_lstore_n (lv' := [(3, .long (md_lo (md_lv r a (md_les r a g i) i))), (6, .long (md_lv r a (md_les r a g i) i)), (0, .ref mx), (1, .int (nI r)), (2, .int (nI a)), (5, .int (nI i))]) hx hb d_M_less_53 rfl hl (by decide) rfl (fun ls hl => ?_)
        refine lv_aload_n hx hb d_M_less_54 rfl (lv_at hl 2 rfl) ?_
        refine va_get (D := (dC, dI)) (ci := 4) (v := .ref pa) (C := R_M) (T := F_M) (N := 9) hx hb ha ui_M hown hK hP 0 rfl rfl 7 (by decide) (ha _ wm_M_12) (fun _ h9 => h9) rfl d_M_less_55 ?_
        refine lv_bipush (v := 24) hx hb d_M_less_58 (by decide) ?_
        refine lv_iload_n hx hb d_M_less_60 rfl (lv_at hl 3 rfl) ?_
        refine lv_imul hx hb d_M_less_61 ?_
        refine lv_iload hx hb d_M_less_62 (lv_at hl 5 rfl) ?_
        refine lv_iadd hx hb d_M_less_64 ?_
        refine lv_lload hx hb d_M_less_65 (lv_at hl 1 rfl) ?_
        refine lv_lload_n hx hb d_M_less_67 rfl (lv_at hl 0 rfl) ?_
        refine lv_ldc2 (v := 1000000) hx hb hown (ha _ wm_M_32) d_M_less_68 ?_
        refine lv_lmul hx hb d_M_less_71 ?_
        refine lv_ladd hx hb d_M_less_72 ?_
        refine ct_last hx hb hK hP hD hS 1 0 rfl rfl (24 * r + i) (md_ix r i) (by omega) (by omega) d_M_less_73 (fun H locs hP hD hS => ?_)
        have hP : va_P (dC, dI) cl9 [(mx, .inr (4, [.int th, .long sd, .int nt, .ref ro, .ref pl, .ref vl, .int (nI f), .ref pa, .ref pr])), (pa, .inl (cL, 240, .inr (.inl (vp_updL ((md_les r a g i).1) (24 * r + i) ((md_lv r a (md_les r a g i) i) + ((md_lo (md_lv r a (md_les r a g i) i)) * 1000000))))))] H := hP
        have hD : va_D A [(mx, .inr (4, [.int th, .long sd, .int nt, .ref ro, .ref pl, .ref vl, .int (nI f), .ref pa, .ref pr])), (pa, .inl (cL, 240, .inr (.inl (vp_updL ((md_les r a g i).1) (24 * r + i) ((md_lv r a (md_les r a g i) i) + ((md_lo (md_lv r a (md_les r a g i) i)) * 1000000))))))] := hD
        refine lv_iinc (v := (nI (i + 1))) (lv' := [(5, .int (nI (i + 1))), (3, .long (md_lo (md_lv r a (md_les r a g i) i))), (6, .long (md_lv r a (md_les r a g i) i)), (0, .ref mx), (1, .int (nI r)), (2, .int (nI a))]) hx hb d_M_less_74 hl (k := 5) rfl (by exact nI_1 i) (by decide) rfl (fun ls hl => ?_)
        refine lv_goto (tgt := 5) hx hb d_M_less_77 (by decide) ?_
        exact ih (i + 1) (by omega) _ _ _ hP hD hS (lv_sub hl [3, 4, 5, 1, 0] rfl)
set_option maxHeartbeats 4000000 in
set_option maxRecDepth 100000 in
/-- registers: less -/
theorem c_M_less (l : Launch) (dC : Nat → ClassId) (dI : Nat → Nat → Nat) (mx : Nat) (th : Int32) (sd : Int64) (nt : Int32) (ro : Nat) (pl : Nat) (vl : Nat) (f : Nat) (pa : Nat) (pr : Nat) (cL : ClassId) (g : Nat → Int64) (r : Nat) (a : Nat) (hr9 : r < 10) (ha9 : a < 10) (sz : Nat) : ct_V l y_M_less w_M_less { frames := 0, cells := 0, slots := 0, locals := 0 } (dC, dI) cl9 [(cL, .long)] ct_G0 [.ref mx, .int (nI r), .int (nI a)] [(mx, .inr (4, [.int th, .long sd, .int nt, .ref ro, .ref pl, .ref vl, .int (nI f), .ref pa, .ref pr])), (pa, .inl (cL, 240, .inr (.inl g)))] sz (S := Nat → Int64) (fun u : Nat → Int64 => u = (md_les r a g 24).1) (fun _ : Nat → Int64 => [(cL, .long)]) (fun u : Nat → Int64 => [(mx, .inr (4, [.int th, .long sd, .int nt, .ref ro, .ref pl, .ref vl, .int (nI f), .ref pa, .ref pr])), (pa, .inl (cL, 240, .inr (.inl u)))]) 0 0 := by
  refine ct_of (Qf := fun A => va_Qv (fun u : Nat → Int64 => u = (md_les r a g 24).1) (ct_B (S := Nat → Int64) (dC, dI) cl9 (fun _ : Nat → Int64 => [(cL, .long)]) A (fun u : Nat → Int64 => [(mx, .inr (4, [.int th, .long sd, .int nt, .ref ro, .ref pl, .ref vl, .int (nI f), .ref pa, .ref pr])), (pa, .inl (cL, 240, .inr (.inl u)))])) A) (cc := b_M_less) (maxL := 8) (ret := none) (by decide) rfl (Nat.le_of_ble_eq_true rfl) ?_
  intro p e s m below meth c A ls hF hA hP hK hD hG hS hl
  obtain ⟨hx, hb, hr, hml, hts, hown, hlocks, hnm⟩ := id hF
  have hown : s.vm.findClass R_M = some m.cls := hown
  have ha : ∀ w ∈ al_M, w.before [.ref mx, .int (nI r), .int (nI a)].toArray s = true := fun w h => hts w (List.mem_cons_of_mem _ h)
  have hl : lv_has ls 8 [(0, .ref mx), (1, .int (nI r)), (2, .int (nI a))] := hl
  refine lv_lconst (v := 0) hx hb d_M_less_0 (by decide) ?_
  refine lv_lstore_n (lv' := [(3, .long 0), (0, .ref mx), (1, .int (nI r)), (2, .int (nI a))]) hx hb d_M_less_1 rfl hl (by decide) rfl (fun ls hl => ?_)
  refine lv_iconst (v := 0) hx hb d_M_less_2 (by decide) ?_
  refine lv_istore (lv' := [(5, .int 0), (3, .long 0), (0, .ref mx), (1, .int (nI r)), (2, .int (nI a))]) hx hb d_M_less_3 hl (by decide) rfl (fun ls hl => ?_)
  refine lp_M_less (mx := mx) (th := th) (sd := sd) (nt := nt) (ro := ro) (pl := pl) (vl := vl) (f := f) (pa := pa) (pr := pr) (cL := cL) (g := g) (r := r) (a := a) hF hA hK hr9 ha9 (fun H locs ls hP hD hS hl => ?_) 24 0 (by omega) _ _ _ hP hD hS (lv_sub hl [2, 3, 4, 1, 0] rfl)
  exact ct_vret hF d_M_less_80 ((md_les r a g 24).1) rfl (hP.sub [0, 1] rfl) (hD.sub [0, 1] (by decide) rfl) hK hS
set_option maxHeartbeats 4000000 in
set_option maxRecDepth 100000 in
/-- whole's loop -/
theorem lp_M_whole {p : Program} {l : Launch} {e : Env} {R : Room} {s : State} {m : MethodId} {args : Array Value} {below : List Frame} {meth : Method} {c : Code} {Q : State → Prop} {A : Nat → Prop} {cells slots : Nat} {dC : Nat → ClassId} {dI : Nat → Nat → Nat} {mx : Nat} {th : Int32} {sd : Int64} {nt : Int32} {ro : Nat} {pl : Nat} {vl : Nat} {f : Nat} {pa : Nat} {pr : Nat} {cL : ClassId} {g : Nat → Int64} {r : Nat} {v : Int64} (hF : ct_F p s m meth c b_M_whole none 7 w_M_whole y_M_whole args) (hA : ∀ q, s.heap.size ≤ q → A q) (hK : va_K (dC, dI) cl9 [(cL, .long)] s) (hr9 : r < 10) (hf9 : f ≤ 24)
    (K : ∀ (H : Heap) (locs : List Loc) (ls : Array Slot), va_P (dC, dI) cl9 [(mx, .inr (4, [.int th, .long sd, .int nt, .ref ro, .ref pl, .ref vl, .int (nI f), .ref pa, .ref pr])), (pa, .inl (cL, 240, .inr (.inl ((md_wh f r v g 24).1))))] H → va_D A [(mx, .inr (4, [.int th, .long sd, .int nt, .ref ro, .ref pl, .ref vl, .int (nI f), .ref pa, .ref pr])), (pa, .inl (cL, 240, .inr (.inl ((md_wh f r v g 24).1))))] → va_S A s.heap H locs → lv_has ls 7 [(0, .ref mx), (1, .int (nI r)), (4, .long ((md_wh f r v g 24).2)), (6, .int (nI 24))] → W p l e R s m args below meth c H locs cells slots Q (F0 m 72 ls [])) :
    ∀ (n9 i : Nat), i + n9 = 24 → ∀ (H : Heap) (locs : List Loc) (ls : Array Slot), va_P (dC, dI) cl9 [(mx, .inr (4, [.int th, .long sd, .int nt, .ref ro, .ref pl, .ref vl, .int (nI f), .ref pa, .ref pr])), (pa, .inl (cL, 240, .inr (.inl ((md_wh f r v g i).1))))] H → va_D A [(mx, .inr (4, [.int th, .long sd, .int nt, .ref ro, .ref pl, .ref vl, .int (nI f), .ref pa, .ref pr])), (pa, .inl (cL, 240, .inr (.inl ((md_wh f r v g i).1))))] → va_S A s.heap H locs → lv_has ls 7 [(0, .ref mx), (1, .int (nI r)), (4, .long ((md_wh f r v g i).2)), (6, .int (nI i))] → W p l e R s m args below meth c H locs cells slots Q (F0 m 6 ls []) := by
  obtain ⟨hx, hb, hr, hml, hts, hown, hlocks, hnm⟩ := id hF
  have hown : s.vm.findClass R_M = some m.cls := hown
  have ha : ∀ w ∈ al_M, w.before args s = true := fun w h => hts w (List.mem_cons_of_mem _ h)
  intro n9
  induction n9 with
  | zero =>
    intro i hi H locs ls hP hD hS hl
    obtain rfl : 24 = i := by omega
    refine lv_iload hx hb d_M_whole_6 (lv_at hl 3 rfl) ?_
    refine lv_bipush (v := 24) hx hb d_M_whole_8 (by decide) ?_
    refine lv_icmp_ge (tgt := 72) hx hb d_M_whole_10 (by decide) (fun hc => ?_) (fun hc => ?_)
    · exact K _ _ _ hP hD hS (lv_sub hl [0, 1, 2, 3] rfl)
    · exact absurd (show nI 24 ≤ nI 24 from nI_le (by omega) (by omega)) hc
  | succ n9 ih =>
    intro i hi H locs ls hP hD hS hl
    have hlt : i < 24 := by omega
    refine lv_iload hx hb d_M_whole_6 (lv_at hl 3 rfl) ?_
    refine lv_bipush (v := 24) hx hb d_M_whole_8 (by decide) ?_
    refine lv_icmp_ge (tgt := 72) hx hb d_M_whole_10 (by decide) (fun hc => ?_) (fun hc => ?_)
    · exact absurd (show nI 24 ≤ nI i from hc) (nI_ge (by omega) (by omega))
    · refine lv_aload_n hx hb d_M_whole_13 rfl (lv_at hl 0 rfl) ?_
      refine va_get (D := (dC, dI)) (ci := 4) (v := .ref pa) (C := R_M) (T := F_M) (N := 9) hx hb ha ui_M hown hK hP 0 rfl rfl 7 (by decide) (ha _ wm_M_12) (fun _ h9 => h9) rfl d_M_whole_14 ?_
      refine lv_bipush (v := 24) hx hb d_M_whole_17 (by decide) ?_
      refine lv_iload_n hx hb d_M_whole_19 rfl (lv_at hl 1 rfl) ?_
      refine lv_imul hx hb d_M_whole_20 ?_
      refine lv_iload hx hb d_M_whole_21 (lv_at hl 3 rfl) ?_
      refine lv_iadd hx hb d_M_whole_23 ?_
      refine lv_iload hx hb d_M_whole_24 (lv_at hl 3 rfl) ?_
      refine lv_aload_n hx hb d_M_whole_26 rfl (lv_at hl 0 rfl) ?_
      refine va_get (D := (dC, dI)) (ci := 4) (v := .int (nI f)) (C := R_M) (T := F_M) (N := 9) hx hb ha ui_M hown hK hP 0 rfl rfl 6 (by decide) (ha _ wm_M_11) (fun _ h9 => h9) rfl d_M_whole_27 ?_
      refine lv_icmp_ge (tgt := 37) hx hb d_M_whole_30 (by decide) (fun h1 => ?_) (fun h1 => ?_)
      · refine lv_lload hx hb d_M_whole_37 (lv_at hl 2 rfl) ?_
        refine lv_ldc2 (v := 1000000) hx hb hown (ha _ wm_M_32) d_M_whole_39 ?_
        refine lv_lrem hx hb d_M_whole_42 (by decide) ?_
        refine ct_last hx hb hK hP hD hS 1 0 rfl rfl (24 * r + i) (md_ix r i) (by omega) (by omega) d_M_whole_43 (fun H locs hP hD hS => ?_)
        have hP : va_P (dC, dI) cl9 [(mx, .inr (4, [.int th, .long sd, .int nt, .ref ro, .ref pl, .ref vl, .int (nI f), .ref pa, .ref pr])), (pa, .inl (cL, 240, .inr (.inl (vp_updL ((md_wh f r v g i).1) (24 * r + i) (((md_wh f r v g i).2) - ((md_wh f r v g i).2) / 1000000 * 1000000)))))] H := hP
        have hD : va_D A [(mx, .inr (4, [.int th, .long sd, .int nt, .ref ro, .ref pl, .ref vl, .int (nI f), .ref pa, .ref pr])), (pa, .inl (cL, 240, .inr (.inl (vp_updL ((md_wh f r v g i).1) (24 * r + i) (((md_wh f r v g i).2) - ((md_wh f r v g i).2) / 1000000 * 1000000)))))] := hD
        refine lv_iload hx hb d_M_whole_44 (lv_at hl 3 rfl) ?_
        refine lv_aload_n hx hb d_M_whole_46 rfl (lv_at hl 0 rfl) ?_
        refine va_get (D := (dC, dI)) (ci := 4) (v := .int (nI f)) (C := R_M) (T := F_M) (N := 9) hx hb ha ui_M hown hK hP 0 rfl rfl 6 (by decide) (ha _ wm_M_11) (fun _ h9 => h9) rfl d_M_whole_47 ?_
        refine lv_icmp_ge (tgt := 58) hx hb d_M_whole_50 (by decide) (fun h2 => ?_) (fun h2 => ?_)
        · refine lv_lload hx hb d_M_whole_58 (lv_at hl 2 rfl) ?_
          refine lv_ldc2 (v := 1000000) hx hb hown (ha _ wm_M_32) d_M_whole_60 ?_
          refine lv_ldiv hx hb d_M_whole_63 (by decide) ?_
          refine lv_lstore (lv' := [(4, .long (((md_wh f r v g i).2) / 1000000)), (0, .ref mx), (1, .int (nI r)), (6, .int (nI i))]) hx hb d_M_whole_64 hl (by decide) rfl (fun ls hl => ?_)
          refine lv_iinc (v := (nI (i + 1))) (lv' := [(6, .int (nI (i + 1))), (4, .long (((md_wh f r v g i).2) / 1000000)), (0, .ref mx), (1, .int (nI r))]) hx hb d_M_whole_66 hl (k := 3) rfl (by exact nI_1 i) (by decide) rfl (fun ls hl => ?_)
          refine lv_goto (tgt := 6) hx hb d_M_whole_69 (by decide) ?_
          have hk : ¬ i < f := Nat.not_lt.mpr ((nI_leI (by omega) (by omega)).mp (show nI f ≤ nI i from h1))
          have e9 : (md_wh f r v g (i + 1)) = (vp_updL (md_wh f r v g i).1 (24 * r + i) (pu_rem (md_wh f r v g i).2 1000000), (md_wh f r v g i).2 / 1000000) := by show (vp_updL _ _ (if i < f then 0 else _), (if i < f then _ else _)) = _; rw [if_neg hk, if_neg hk]
          have hl : lv_has ls 7 [(6, .int (nI (i + 1))), (4, .long ((md_wh f r v g (i + 1)).2)), (0, .ref mx), (1, .int (nI r))] := by rw [e9]; exact hl
          exact ih (i + 1) (by omega) _ _ _ (by rw [e9]; exact hP) (by rw [e9]; exact hD) hS (lv_sub hl [2, 3, 1, 0] rfl)
        · exact absurd h1 h2
      · refine lv_lconst (v := 0) hx hb d_M_whole_33 (by decide) ?_
        refine lv_goto (tgt := 43) hx hb d_M_whole_34 (by decide) ?_
        refine ct_last hx hb hK hP hD hS 1 0 rfl rfl (24 * r + i) (md_ix r i) (by omega) (by omega) d_M_whole_43 (fun H locs hP hD hS => ?_)
        have hP : va_P (dC, dI) cl9 [(mx, .inr (4, [.int th, .long sd, .int nt, .ref ro, .ref pl, .ref vl, .int (nI f), .ref pa, .ref pr])), (pa, .inl (cL, 240, .inr (.inl (vp_updL ((md_wh f r v g i).1) (24 * r + i) 0))))] H := hP
        have hD : va_D A [(mx, .inr (4, [.int th, .long sd, .int nt, .ref ro, .ref pl, .ref vl, .int (nI f), .ref pa, .ref pr])), (pa, .inl (cL, 240, .inr (.inl (vp_updL ((md_wh f r v g i).1) (24 * r + i) 0))))] := hD
        refine lv_iload hx hb d_M_whole_44 (lv_at hl 3 rfl) ?_
        refine lv_aload_n hx hb d_M_whole_46 rfl (lv_at hl 0 rfl) ?_
        refine va_get (D := (dC, dI)) (ci := 4) (v := .int (nI f)) (C := R_M) (T := F_M) (N := 9) hx hb ha ui_M hown hK hP 0 rfl rfl 6 (by decide) (ha _ wm_M_11) (fun _ h9 => h9) rfl d_M_whole_47 ?_
        refine lv_icmp_ge (tgt := 58) hx hb d_M_whole_50 (by decide) (fun h2 => ?_) (fun h2 => ?_)
        · exact absurd h2 h1
        · refine lv_lload hx hb d_M_whole_53 (lv_at hl 2 rfl) ?_
          refine lv_goto (tgt := 64) hx hb d_M_whole_55 (by decide) ?_
          refine lv_lstore (lv' := [(4, .long ((md_wh f r v g i).2)), (0, .ref mx), (1, .int (nI r)), (6, .int (nI i))]) hx hb d_M_whole_64 hl (by decide) rfl (fun ls hl => ?_)
          refine lv_iinc (v := (nI (i + 1))) (lv' := [(6, .int (nI (i + 1))), (4, .long ((md_wh f r v g i).2)), (0, .ref mx), (1, .int (nI r))]) hx hb d_M_whole_66 hl (k := 3) rfl (by exact nI_1 i) (by decide) rfl (fun ls hl => ?_)
          refine lv_goto (tgt := 6) hx hb d_M_whole_69 (by decide) ?_
          have hk : i < f := Nat.lt_of_not_le (fun q => h1 (show nI f ≤ nI i from nI_le q (by omega)))
          have e9 : (md_wh f r v g (i + 1)) = (vp_updL (md_wh f r v g i).1 (24 * r + i) 0, (md_wh f r v g i).2) := by show (vp_updL _ _ (if i < f then 0 else _), (if i < f then _ else _)) = _; rw [if_pos hk, if_pos hk]
          have hl : lv_has ls 7 [(6, .int (nI (i + 1))), (4, .long ((md_wh f r v g (i + 1)).2)), (0, .ref mx), (1, .int (nI r))] := by rw [e9]; exact hl
          exact ih (i + 1) (by omega) _ _ _ (by rw [e9]; exact hP) (by rw [e9]; exact hD) hS (lv_sub hl [2, 3, 1, 0] rfl)
set_option maxHeartbeats 4000000 in
set_option maxRecDepth 100000 in
/-- register r becomes the whole number v -/
theorem c_M_whole (l : Launch) (dC : Nat → ClassId) (dI : Nat → Nat → Nat) (mx : Nat) (th : Int32) (sd : Int64) (nt : Int32) (ro : Nat) (pl : Nat) (vl : Nat) (f : Nat) (pa : Nat) (pr : Nat) (cL : ClassId) (g : Nat → Int64) (r : Nat) (v : Int64) (hr9 : r < 10) (hf9 : f ≤ 24) (sz : Nat) : ct_V l y_M_whole w_M_whole { frames := 0, cells := 0, slots := 0, locals := 0 } (dC, dI) cl9 [(cL, .long)] ct_G0 [.ref mx, .int (nI r), .long v] [(mx, .inr (4, [.int th, .long sd, .int nt, .ref ro, .ref pl, .ref vl, .int (nI f), .ref pa, .ref pr])), (pa, .inl (cL, 240, .inr (.inl g)))] sz (S := Nat → Int64) (fun u : Nat → Int64 => u = (md_wh f r v g 24).1) (fun _ : Nat → Int64 => [(cL, .long)]) (fun u : Nat → Int64 => [(mx, .inr (4, [.int th, .long sd, .int nt, .ref ro, .ref pl, .ref vl, .int (nI f), .ref pa, .ref pr])), (pa, .inl (cL, 240, .inr (.inl u)))]) 0 0 := by
  refine ct_of (Qf := fun A => va_Qv (fun u : Nat → Int64 => u = (md_wh f r v g 24).1) (ct_B (S := Nat → Int64) (dC, dI) cl9 (fun _ : Nat → Int64 => [(cL, .long)]) A (fun u : Nat → Int64 => [(mx, .inr (4, [.int th, .long sd, .int nt, .ref ro, .ref pl, .ref vl, .int (nI f), .ref pa, .ref pr])), (pa, .inl (cL, 240, .inr (.inl u)))])) A) (cc := b_M_whole) (maxL := 7) (ret := none) (by decide) rfl (Nat.le_of_ble_eq_true rfl) ?_
  intro p e s m below meth c A ls hF hA hP hK hD hG hS hl
  obtain ⟨hx, hb, hr, hml, hts, hown, hlocks, hnm⟩ := id hF
  have hown : s.vm.findClass R_M = some m.cls := hown
  have ha : ∀ w ∈ al_M, w.before [.ref mx, .int (nI r), .long v].toArray s = true := fun w h => hts w (List.mem_cons_of_mem _ h)
  have hl : lv_has ls 7 [(0, .ref mx), (1, .int (nI r)), (2, .long v)] := hl
  refine lv_lload_n hx hb d_M_whole_0 rfl (lv_at hl 2 rfl) ?_
  refine lv_lstore (lv' := [(4, .long v), (0, .ref mx), (1, .int (nI r)), (2, .long v)]) hx hb d_M_whole_1 hl (by decide) rfl (fun ls hl => ?_)
  refine lv_iconst (v := 0) hx hb d_M_whole_3 (by decide) ?_
  refine lv_istore (lv' := [(6, .int 0), (4, .long v), (0, .ref mx), (1, .int (nI r)), (2, .long v)]) hx hb d_M_whole_4 hl (by decide) rfl (fun ls hl => ?_)
  refine lp_M_whole (mx := mx) (th := th) (sd := sd) (nt := nt) (ro := ro) (pl := pl) (vl := vl) (f := f) (pa := pa) (pr := pr) (cL := cL) (g := g) (r := r) (v := v) hF hA hK hr9 hf9 (fun H locs ls hP hD hS hl => ?_) 24 0 (by omega) _ _ _ hP hD hS (lv_sub hl [2, 3, 1, 0] rfl)
  exact ct_vret hF d_M_whole_72 ((md_wh f r v g 24).1) rfl (hP.sub [0, 1] rfl) (hD.sub [0, 1] (by decide) rfl) hK hS
