set_option maxHeartbeats 1000000 in
set_option maxRecDepth 100000 in
/-- an illegal argument unless lo ≤ x ≤ hi -/
theorem c_F_demandWithin (l : Launch) (hst : l.stackTraces = false) (dC : Nat → ClassId) (dI : Nat → Nat → Nat) (x lo hi : Int64) (s1 s2 s3 s4 : Nat) (sz : Nat) : cx_V l y_F_demandWithin w_F_demandWithin { frames := 6, cells := 1, slots := 6, locals := 82 } (dC, dI) cl9 [] (xg_G s1 s2 s3 s4) [.long x, .long lo, .long hi] [] sz (S := Unit) (fun _ => lo ≤ x ∧ x ≤ hi) (fun _ : Unit => []) (fun _ => []) (fun E => E = "java/lang/IllegalArgumentException" ∧ (x < lo ∨ hi < x)) 1 6 := by
  refine cx_of (Qf := fun A => va_Qv (fun _ => lo ≤ x ∧ x ≤ hi) (ct_B (S := Unit) (dC, dI) cl9 (fun _ : Unit => []) A (fun _ => [])) A) (Xf := cx_XC (dC, dI) cl9 [] [] (fun E => E = "java/lang/IllegalArgumentException" ∧ (x < lo ∨ hi < x))) (cc := b_F_demandWithin) (maxL := 6) (ret := none) (by decide) rfl (Nat.le_of_ble_eq_true rfl) ?_
  intro p e s m below meth c A ls hF hno hA hP hK hD hG hS hl
  obtain ⟨hx, hb, hr, hml, hts, hown, hlocks, hnm⟩ := id hF
  have hown : s.vm.findClass R_F = some m.cls := hown
  have ha : ∀ w ∈ al_F, w.before [.long x, .long lo, .long hi].toArray s = true := fun w h => hts w (List.mem_cons_of_mem _ h)
  have hl : lv_has ls 6 [(0, .long x), (2, .long lo), (4, .long hi)] := hl
  refine lv_lload_n hx hb d_F_demandWithin_0 rfl (lv_at hl 0 rfl) ?_
  refine lv_lload_n hx hb d_F_demandWithin_1 rfl (lv_at hl 1 rfl) ?_
  refine ct_jlt (tgt := 13) hx hb d_F_demandWithin_2 d_F_demandWithin_3 (by decide) (fun h1 => ?_) (fun h1 => ?_)
  · refine vx_throwS (own := R_F) (cls := "java/lang/IllegalArgumentException") (text := "a number is out of its bounds") (names := ["java/lang/RuntimeException", "java/lang/Exception"]) (sa := s1) hx hb hst hown (by decide +kernel) (by decide +kernel) (ha _ wm_F_31) (ha _ wm_F_113) hG.2.1 (xt_hatI ha hG.1.1) xt_Iot hG.1.2.1 hG.1.2.2 hS (hl.1.trans hml.symm) d_F_demandWithin_13 d_F_demandWithin_16 d_F_demandWithin_17 d_F_demandWithin_19 d_F_demandWithin_22 (fun x h => (hno x h).elim) (Nat.lt_of_lt_of_le (Nat.lt_succ_self 5) (Nat.le_of_ble_eq_true rfl)) (Nat.le_of_ble_eq_true rfl) (Nat.le_of_ble_eq_true rfl) (Nat.le_of_ble_eq_true rfl) hlocks (cx_thrown ⟨rfl, Or.inl h1⟩ hP hK hD hS) hS.2.2 (Nat.le_of_ble_eq_true rfl) (Nat.le_of_ble_eq_true rfl)
  · refine lv_lload_n hx hb d_F_demandWithin_6 rfl (lv_at hl 0 rfl) ?_
    refine lv_lload hx hb d_F_demandWithin_7 (lv_at hl 2 rfl) ?_
    refine ct_jle (tgt := 23) hx hb d_F_demandWithin_9 d_F_demandWithin_10 (by decide) (fun h2 => ?_) (fun h2 => ?_)
    · refine W.widen (k := 1) (n := 6) (Nat.le_of_ble_eq_true rfl) (Nat.le_of_ble_eq_true rfl) ?_
      exact vx_ret (ct_vret hF d_F_demandWithin_23 () ⟨Int64.not_lt.mp h1, h2⟩ (hP.sub [] rfl) (hD.sub [] (by decide) rfl) hK hS)
    · refine vx_throwS (own := R_F) (cls := "java/lang/IllegalArgumentException") (text := "a number is out of its bounds") (names := ["java/lang/RuntimeException", "java/lang/Exception"]) (sa := s1) hx hb hst hown (by decide +kernel) (by decide +kernel) (ha _ wm_F_31) (ha _ wm_F_113) hG.2.1 (xt_hatI ha hG.1.1) xt_Iot hG.1.2.1 hG.1.2.2 hS (hl.1.trans hml.symm) d_F_demandWithin_13 d_F_demandWithin_16 d_F_demandWithin_17 d_F_demandWithin_19 d_F_demandWithin_22 (fun x h => (hno x h).elim) (Nat.lt_of_lt_of_le (Nat.lt_succ_self 5) (Nat.le_of_ble_eq_true rfl)) (Nat.le_of_ble_eq_true rfl) (Nat.le_of_ble_eq_true rfl) (Nat.le_of_ble_eq_true rfl) hlocks (cx_thrown ⟨rfl, Or.inr (Int64.not_le.mp h2)⟩ hP hK hD hS) hS.2.2 (Nat.le_of_ble_eq_true rfl) (Nat.le_of_ble_eq_true rfl)
