def dr_z0 (sd n : Int64) (k : Int32) : Int64 := sd + (-7046029254386353131) * (n + 1) + (-3335678366873096957) * k.toInt64
def dr_z1 (z : Int64) : Int64 := (z ^^^ pu_us z 30) * (-4658895280553007687)
def dr_z2 (z : Int64) : Int64 := (z ^^^ pu_us z 27) * (-7723592293110705685)
def dr_z3 (z : Int64) : Int64 := z ^^^ pu_us z 31
def dr_r (z : Int64) : Int32 := (pu_us z 11 - pu_us z 11 / 1000000000 * 1000000000).toInt32
def dr_v (sd n : Int64) (k : Int32) : Int32 := dr_r (dr_z3 (dr_z2 (dr_z1 (dr_z0 sd n k))))
set_option maxHeartbeats 4000000 in
set_option maxRecDepth 100000 in
/-- a draw -/
theorem c_F_drawn (l : Launch) (dC : Nat → ClassId) (dI : Nat → Nat → Nat) (fx : Nat) (sd : Int64) (tb tc ra : Nat) (n : Int64) (k : Int32) (sz : Nat) : ct_I l y_F_drawn w_F_drawn { frames := 0, cells := 0, slots := 0, locals := 0 } (dC, dI) cl9 [] ct_G0 [.ref fx, .long n, .int k] [(fx, .inr (3, [.long sd, .ref tb, .int (nI tc), .ref ra]))] sz (S := Unit) (fun r _ => r = dr_v sd n k) (fun _ : Unit => []) (fun _ => [(fx, .inr (3, [.long sd, .ref tb, .int (nI tc), .ref ra]))]) 0 0 := by
  refine ct_of (Qf := fun A => va_Qi (fun r _ => r = dr_v sd n k) (ct_B (S := Unit) (dC, dI) cl9 (fun _ : Unit => []) A (fun _ => [(fx, .inr (3, [.long sd, .ref tb, .int (nI tc), .ref ra]))])) A) (cc := b_F_drawn) (maxL := 6) (ret := ((some .int))) (by decide) rfl (Nat.le_of_ble_eq_true rfl) ?_
  intro p e s m below meth c A ls hF hA hP hK hD hG hS hl
  obtain ⟨hx, hb, hr, hml, hts, hown, hlocks, hnm⟩ := id hF
  have hown : s.vm.findClass R_F = some m.cls := hown
  have ha : ∀ w ∈ al_F, w.before [.ref fx, .long n, .int k].toArray s = true := fun w h => hts w (List.mem_cons_of_mem _ h)
  have hl : lv_has ls 6 [(0, .ref fx), (1, .long n), (3, .int k)] := hl
  refine lv_aload_n hx hb d_F_drawn_0 rfl (lv_at hl 0 rfl) ?_
  refine va_get (D := (dC, dI)) (ci := 3) (v := .long sd) (C := R_F) (T := F_F) (N := 4) hx hb ha ui_F hown hK hP 0 rfl rfl 0 (by decide) (ha _ wm_F_7) (fun _ h9 => h9) rfl d_F_drawn_1 ?_
  refine lv_ldc2 (v := (-7046029254386353131)) hx hb hown (ha _ wm_F_18) d_F_drawn_4 ?_
  refine lv_lload_n hx hb d_F_drawn_7 rfl (lv_at hl 1 rfl) ?_
  refine lv_lconst (v := 1) hx hb d_F_drawn_8 (by decide) ?_
  refine lv_ladd hx hb d_F_drawn_9 ?_
  refine lv_lmul hx hb d_F_drawn_10 ?_
  refine lv_ladd hx hb d_F_drawn_11 ?_
  refine lv_ldc2 (v := (-3335678366873096957)) hx hb hown (ha _ wm_F_19) d_F_drawn_12 ?_
  refine lv_iload_n hx hb d_F_drawn_15 rfl (lv_at hl 2 rfl) ?_
  refine lv_i2l hx hb d_F_drawn_16 rfl ?_
  refine lv_lmul hx hb d_F_drawn_17 ?_
  refine lv_ladd hx hb d_F_drawn_18 ?_
  refine lv_topl (fun z1 ez1 => ?_)
  refine lv_lstore (lv' := [(4, .long z1), (0, .ref fx), (1, .long n), (3, .int k)]) hx hb d_F_drawn_19 hl (by decide) rfl (fun ls hl => ?_)
  refine lv_lload hx hb d_F_drawn_21 (lv_at hl 0 rfl) ?_
  refine lv_lload hx hb d_F_drawn_23 (lv_at hl 0 rfl) ?_
  refine lv_bipush (v := 30) hx hb d_F_drawn_25 (by decide) ?_
  refine lv_lushr (v := (pu_us z1 30)) hx hb d_F_drawn_27 rfl ?_
  refine lv_lxor hx hb d_F_drawn_28 ?_
  refine lv_ldc2 (v := (-4658895280553007687)) hx hb hown (ha _ wm_F_20) d_F_drawn_29 ?_
  refine lv_lmul hx hb d_F_drawn_32 ?_
  refine lv_topl (fun z2 ez2 => ?_)
  refine lv_lstore (lv' := [(4, .long z2), (0, .ref fx), (1, .long n), (3, .int k)]) hx hb d_F_drawn_33 hl (by decide) rfl (fun ls hl => ?_)
  refine lv_lload hx hb d_F_drawn_35 (lv_at hl 0 rfl) ?_
  refine lv_lload hx hb d_F_drawn_37 (lv_at hl 0 rfl) ?_
  refine lv_bipush (v := 27) hx hb d_F_drawn_39 (by decide) ?_
  refine lv_lushr (v := (pu_us z2 27)) hx hb d_F_drawn_41 rfl ?_
  refine lv_lxor hx hb d_F_drawn_42 ?_
  refine lv_ldc2 (v := (-7723592293110705685)) hx hb hown (ha _ wm_F_21) d_F_drawn_43 ?_
  refine lv_lmul hx hb d_F_drawn_46 ?_
  refine lv_topl (fun z3 ez3 => ?_)
  refine lv_lstore (lv' := [(4, .long z3), (0, .ref fx), (1, .long n), (3, .int k)]) hx hb d_F_drawn_47 hl (by decide) rfl (fun ls hl => ?_)
  refine lv_lload hx hb d_F_drawn_49 (lv_at hl 0 rfl) ?_
  refine lv_lload hx hb d_F_drawn_51 (lv_at hl 0 rfl) ?_
  refine lv_bipush (v := 31) hx hb d_F_drawn_53 (by decide) ?_
  refine lv_lushr (v := (pu_us z3 31)) hx hb d_F_drawn_55 rfl ?_
  refine lv_lxor hx hb d_F_drawn_56 ?_
  refine lv_topl (fun z4 ez4 => ?_)
  refine lv_lstore (lv' := [(4, .long z4), (0, .ref fx), (1, .long n), (3, .int k)]) hx hb d_F_drawn_57 hl (by decide) rfl (fun ls hl => ?_)
  refine lv_lload hx hb d_F_drawn_59 (lv_at hl 0 rfl) ?_
  refine lv_bipush (v := 11) hx hb d_F_drawn_61 (by decide) ?_
  refine lv_lushr (v := (pu_us z4 11)) hx hb d_F_drawn_63 rfl ?_
  refine lv_ldc2 (v := 1000000000) hx hb hown (ha _ wm_F_22) d_F_drawn_64 ?_
  refine lv_lrem hx hb d_F_drawn_67 (by decide) ?_
  refine lv_l2i hx hb d_F_drawn_68 rfl ?_
  exact ct_iret hF d_F_drawn_69 () (by subst ez4; subst ez3; subst ez2; subst ez1; rfl) (hP.sub [0] rfl) (hD.sub [0] (by decide) rfl) hK hS
