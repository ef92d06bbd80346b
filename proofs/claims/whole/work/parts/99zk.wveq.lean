/-! EQ_sn and EQ_cs -/
theorem fac_zero {d0 : Nat} {v : rk_U} (hd : d0 = 1 ∨ d0 = 2) (o0 : okw (v 0) 7) (o4 : okw (v 4) 7) (hf : uv (v 4) 7 = 0) (hT : uv (v 0) 7 ≤ 2 ^ 160) : okw (rk_fac d0 v 0) 7 ∧ uv (rk_fac d0 v 0) 7 = uv (v 0) 7 := by
  have E : rk_fac d0 v = rk_fE d0 (rk_cpy 1 0 v) := rfl
  rw [E]
  have c := cpw_ok (f := v (2 * 1)) o0
  have w2 : rk_cpy 1 0 v 2 = wr_cp (v (2 * 1)) (v (2 * 0)) := vup_eq _ _ _
  have w0 : rk_cpy 1 0 v 0 = v 0 := vup_ne _ _ (by decide)
  have w4 : rk_cpy 1 0 v 4 = v 4 := vup_ne _ _ (by decide)
  have c' : okw (rk_cpy 1 0 v 2) 7 ∧ uv (rk_cpy 1 0 v 2) 7 = uv (v 0) 7 := by rw [w2]; exact c
  rw [← w4] at o4 hf
  rw [← w0] at o0 hT c' ⊢
  clear c w2 w0 w4 E
  generalize rk_cpy 1 0 v = w at *
  have inv := fac_inv hd o0 c'.1 o4 c'.2.symm hf (Nat.zero_le _) (by rw [c'.2]; omega) (fun _ => by rw [c'.2]; exact hT)
  have z1 : fT d0 w 1 = 0 := by
    obtain ⟨M, m1, -, m3⟩ := (inv 1 (by decide)).2 (by decide)
    rw [Nat.mul_zero, Nat.zero_div] at m1
    rw [m3, show M = 0 by omega, Nat.zero_div]
  have E2 : rk_fE d0 w = rk_it (rk_fB d0) (rk_stop (fun i => wr_z (rk_it (rk_fB d0) i w 2)) (201 - d0) 0) w := rfl
  rw [E2]
  have st := stop_ok (fun i => wr_z (rk_it (rk_fB d0) i w 2)) (201 - d0) 0 1 ((zw_ok (inv 1 (by decide)).1.2.1).mpr z1) (Nat.zero_le _) (by omega)
  generalize rk_stop (fun i => wr_z (rk_it (rk_fB d0) i w 2)) (201 - d0) 0 = k at *
  obtain ⟨-, -, s3⟩ := st
  obtain ⟨⟨j1, -, -, -, j5⟩, -⟩ := inv k (by omega)
  refine ⟨j1, ?_⟩
  have T0 : fT d0 w 0 = uv (w 0) 7 := c'.2
  have S1 : fS d0 w k = (uv (w 0) 7 : Int) := by
    rcases (show k = 0 ∨ k = 1 by omega) with h | h
    · subst h
      show (fT d0 w 0 : Int) = _
      rw [T0]
    · subst h
      show (if 0 % 2 = 0 then fS d0 w 0 - (fT d0 w 1 : Int) else _) = _
      rw [if_pos rfl, z1]
      show (fT d0 w 0 : Int) - ((0 : Nat) : Int) = _
      rw [T0]
      omega
  rw [S1] at j5
  have l : uv (w 0) 7 < 2 ^ 224 := Nat.lt_of_le_of_lt hT (by decide)
  generalize uv (w 0) 7 = a at *
  generalize uv (rk_it (rk_fB d0) k w 0) 7 = b at *
  omega
/-- at 0 -/
theorem swing_0 {qn : Nat} {u : rk_U} (hn : qn < 2) : okw (rk_swing 0 (nI qn) u 0) 7 ∧ uv (rk_swing 0 (nI qn) u 0) 7 = if qn = 0 then 0 else 2 ^ 160 := by
  obtain ⟨R, f, a1, a2, a3, a4, a5, -, a7, -, -⟩ := sw0_val (mi := 0) (u := u) (X := 0) (q := 0) (V := 0) (by decide) (by decide) (by decide) (by decide)
  have R0 : R = 0 := by omega
  subst R0
  have f0 : f = 0 := by
    have : 0 * 0 / 2 ^ 160 = 0 := by decide
    omega
  subst f0
  have E : rk_swing 0 (nI qn) u = rk_sw2 (sw_t 0 (nI qn)) (rk_sw1 (sw_t 0 (nI qn)) (rk_sw0 0 u)) := rfl
  rw [E]
  generalize rk_sw0 0 u = v at *
  rcases (show qn = 0 ∨ qn = 1 by omega) with h | h
  · subst h
    have t : sw_t 0 (nI 0) = 0 := by decide
    rw [t, if_pos rfl]
    have e : rk_sw2 0 (rk_sw1 0 v) = rk_fac 2 v := by
      unfold rk_sw2 rk_sw1
      rw [if_pos (by decide), if_neg (by decide)]
    rw [e]
    have k := fac_zero (d0 := 2) (Or.inr rfl) a1 a3 a4 (by rw [a2]; decide)
    rw [a2] at k
    exact k
  · subst h
    have t : sw_t 0 (nI 1) = 1 := by decide
    rw [t, if_neg (by decide)]
    have e : rk_sw2 1 (rk_sw1 1 v) = rk_fac 1 (rk_load 0 1 v) := by
      unfold rk_sw2 rk_sw1
      rw [if_pos (by decide), if_pos (by decide)]
    rw [e]
    have l := load_ok (f := v (2 * 0)) (x := 1)
    have w0 : rk_load 0 1 v 0 = wr_load (v (2 * 0)) 1 := vup_eq _ _ _
    have w4 : rk_load 0 1 v 4 = v 4 := vup_ne _ _ (by decide)
    rw [← w0] at l
    rw [← w4] at a3 a4
    have l2 : uv (rk_load 0 1 v 0) 7 = 2 ^ 160 := by rw [l.2]; decide
    have k := fac_zero (d0 := 1) (v := rk_load 0 1 v) (Or.inl rfl) l.1 a3 a4 (by rw [l2]; exact Nat.le_refl _)
    rw [l2] at k
    exact k
theorem wt_ni {qn X : Nat} (h1 : 1 ≤ X) (h2 : X ≤ 100000000) (k : Int) (hk : -34359738368 ≤ k) : ¬ nb (1000000000 * wt qn X - (k : Rat)) (1/137438953472) := by
  unfold wt
  have a := wn_ni X h1 h2 k hk
  by_cases q0 : qn = 0
  · rw [if_pos q0]; exact a.1
  · rw [if_neg q0]
    by_cases q1 : qn = 1
    · rw [if_pos q1]; exact a.2
    · rw [if_neg q1]
      intro hn
      have xb : nb ((X : Rat) * wn_d) 100 := by
        have d0 := wn_d0
        have hx : (X : Rat) ≤ 100000000 := by
          have : (X : Rat) ≤ ((100000000 : Nat) : Rat) := Rat.natCast_le_natCast.mpr h2
          simpa using this
        have x0 : (0 : Rat) ≤ (X : Rat) := Rat.natCast_nonneg
        have dd : wn_d * 1000000 = 1 := by decide +kernel
        have m := Rat.mul_le_mul_of_nonneg_right hx d0
        have m0 := Rat.mul_nonneg x0 d0
        generalize wn_d = d at *
        exact ⟨by grind, by grind⟩
      have sb := (cs_bd xb (by decide +kernel)).2
      by_cases c : -34359738368 ≤ -k
      · have b := (wn_ni X h1 h2 (-k) c).1
        apply b
        have n := nb_neg hn
        rw [Rat.intCast_neg]
        generalize ss ((X : Rat) * wn_d) = S at *
        have e : -(1000000000 * -S - (k : Rat)) = 1000000000 * S - -(k : Rat) := by grind
        rw [e] at n
        exact n
      · have kr : (34359738368 : Rat) ≤ (k : Rat) := by
          have : ((34359738368 : Int) : Rat) ≤ (k : Rat) := Rat.intCast_le_intCast.mpr (by omega)
          simpa using this
        obtain ⟨s1, s2⟩ := sb
        have := hn.1
        generalize ss ((X : Rat) * wn_d) = S at *
        grind
theorem wv_eq {x c : Int32} {u : rk_U} {z : S2} {qn : Nat} (h1 : ¬ x < -100000000) (h2 : x ≤ 100000000) (hc : c = 0 ∨ c = 1) (hx : x ≠ 0) (hn : qn < 3) (hw : wt qn x.toInt.natAbs = wvt c x) : fn_r 1000000000 (rk_swing (pu_abl x.toInt64) (nI qn) u) = m_val (wv_P x c) (wv_V x c) z := by
  have x0 : -100000000 ≤ x.toInt := by
    have : ¬ x.toInt < (-100000000 : Int32).toInt := fun q => h1 ((i32_lt _ _).mpr q)
    have e : (-100000000 : Int32).toInt = -100000000 := rfl
    omega
  have x9 : x.toInt ≤ 100000000 := by
    have := (i32_le _ _).mp h2
    have e : (100000000 : Int32).toInt = 100000000 := rfl
    omega
  have hx0 : x.toInt ≠ 0 := fun q => hx (Int32.toInt_inj.mp (by rw [q]; rfl))
  have X1 : 1 ≤ x.toInt.natAbs := by omega
  have X9 : x.toInt.natAbs ≤ 100000000 := by omega
  obtain ⟨o, S, s1, s2⟩ := swing_val (u := u) (abl_un x0 x9) X9 hn
  rw [hw] at s2
  have ni := wt_ni (qn := qn) X1 X9
  rw [hw] at ni
  have e9 : ((un (1000000000 : Int64) : Nat) : Int) = 1000000000 := by decide
  -- the class's number is small
  have vb : nb (wvt c x) 2 := by
    have xb : nb ((x.toInt.natAbs : Rat) * wn_d) 100 := by
      have d0 := wn_d0
      have hx : (x.toInt.natAbs : Rat) ≤ 100000000 := by
        have : (x.toInt.natAbs : Rat) ≤ ((100000000 : Nat) : Rat) := Rat.natCast_le_natCast.mpr X9
        simpa using this
      have y0 : (0 : Rat) ≤ (x.toInt.natAbs : Rat) := Rat.natCast_nonneg
      have dd : wn_d * 1000000 = 1 := by decide +kernel
      have m := Rat.mul_le_mul_of_nonneg_right hx d0
      have m0 := Rat.mul_nonneg y0 d0
      generalize wn_d = d at *
      exact ⟨by grind, by grind⟩
    obtain ⟨b1, b2⟩ := cs_bd xb (by decide +kernel)
    unfold wvt
    split
    · split
      · exact b2
      · exact nb_neg b2
    · exact b1
  have Sb : -(3 * 2 ^ 160) ≤ S ∧ S ≤ 3 * 2 ^ 160 := by
    obtain ⟨p1, p2⟩ := s2
    obtain ⟨q1, q2⟩ := vb
    have U0 : (10000 : Rat) ≤ ((2 ^ 160 : Nat) : Rat) := by decide +kernel
    have c3 : ((3 * 2 ^ 160 : Int) : Rat) = 3 * ((2 ^ 160 : Nat) : Rat) := by decide +kernel
    have r1 : ((-(3 * 2 ^ 160) : Int) : Rat) ≤ (S : Rat) := by
      rw [Rat.intCast_neg, c3]
      generalize ((2 ^ 160 : Nat) : Rat) = U at *
      have m := Rat.mul_le_mul_of_nonneg_right q1 (show 0 ≤ U by grind)
      grind
    have r2 : (S : Rat) ≤ ((3 * 2 ^ 160 : Int) : Rat) := by
      rw [c3]
      generalize ((2 ^ 160 : Nat) : Rat) = U at *
      have m := Rat.mul_le_mul_of_nonneg_right q2 (show 0 ≤ U by grind)
      grind
    exact ⟨Rat.intCast_le_intCast.mp r1, Rat.intCast_le_intCast.mp r2⟩
  have ci := fn_okI (m := 1000000000) o (by decide) s1 (by rw [e9]; omega) (by rw [e9]; omega)
  rw [e9] at ci
  apply Int64.toInt_inj.mp
  rw [ci]
  refine (m_val_i (fun f hf z => ?_) z).symm
  obtain ⟨b, w1, w2, w3, w4⟩ := wv_say (z := z) hf h1 h2 hc X1
  have hB := pw_pos f
  have hBr : (0 : Rat) < (((1000000 : Int) ^ f : Int) : Rat) := by
    have : ((0 : Int) : Rat) < (((1000000 : Int) ^ f : Int) : Rat) := Rat.intCast_lt_intCast.mpr hB
    simpa using this
  obtain ⟨d1, d2⟩ := rd_le (p := S * 1000000000) (q := 2 ^ 160) (by decide)
  have cU : ((2 ^ 160 : Int) : Rat) = ((2 ^ 160 : Nat) : Rat) := by decide +kernel
  rw [Rat.intCast_mul, cU] at d1 d2
  have c9 : ((1000000000 : Int) : Rat) = 1000000000 := by simp
  rw [c9] at d1 d2
  refine (fl_int (V := 1000000000 * wvt c x) (t := 1/137438953472) (A := ((2 ^ 160 : Nat) : Rat)) (a := (S : Rat) * 1000000000) (by decide +kernel) hBr d1 d2 w1 w2 ?_ w3 ni ?_ w4).symm
  · have d : (10000 * 1000000000 : Rat) ≤ ((2 ^ 160 : Nat) : Rat) * (1/137438953472) := by decide +kernel
    obtain ⟨p1, p2⟩ := s2
    generalize ((2 ^ 160 : Nat) : Rat) = U at *
    generalize wvt c x = W at *
    constructor <;> grind
  · omega
theorem EQ_sn_ok : EQ_sn := by
  intro x u z ⟨l1, l2⟩
  have r := rg_of (lo' := -100000000) (hi' := 100000000) (by decide) (by decide) ⟨l1, l2⟩
  by_cases hx : x = 0
  · subst hx
    have hv : vl_wv 0 0 z = 0 := (if_neg r.1).trans ((if_pos r.2).trans ((if_pos rfl).trans (if_pos rfl)))
    rw [hv]
    have k := swing_0 (qn := 0) (u := u) (by decide)
    have ea : pu_abl (0 : Int32).toInt64 = 0 := by decide
    have eq : (if (0 : Int32) ≤ 0 then (0 : Int32) else 2) = nI 0 := by decide
    rw [ea, eq]
    apply un_inj
    rw [if_pos rfl] at k
    rw [fn_ok k.1 (by decide) (by rw [k.2, Nat.zero_mul]; decide), k.2, Nat.zero_mul]
    decide
  · have hv : vl_wv x 0 z = m_val (wv_P x 0) (wv_V x 0) z := (if_neg r.1).trans ((if_pos r.2).trans (if_neg hx))
    rw [hv]
    by_cases hp : 0 ≤ x
    · have eq : (if 0 ≤ x then (0 : Int32) else 2) = nI 0 := by rw [if_pos hp]; decide
      rw [eq]
      refine wv_eq r.1 r.2 (Or.inl rfl) hx (by decide) ?_
      unfold wt wvt
      rw [if_pos rfl, if_pos rfl, if_pos hp]
    · have eq : (if 0 ≤ x then (0 : Int32) else 2) = nI 2 := by rw [if_neg hp]; decide
      rw [eq]
      refine wv_eq r.1 r.2 (Or.inl rfl) hx (by decide) ?_
      unfold wt wvt
      rw [if_neg (by decide), if_neg (by decide), if_pos rfl, if_neg hp]
theorem EQ_cs_ok : EQ_cs := by
  intro x u z ⟨l1, l2⟩
  have r := rg_of (lo' := -100000000) (hi' := 100000000) (by decide) (by decide) ⟨l1, l2⟩
  have eq : (1 : Int32) = nI 1 := by decide
  by_cases hx : x = 0
  · subst hx
    have hv : vl_wv 0 1 z = 1000000000 := (if_neg r.1).trans ((if_pos r.2).trans ((if_pos rfl).trans (if_neg (by decide))))
    rw [hv]
    have k := swing_0 (qn := 1) (u := u) (by decide)
    have ea : pu_abl (0 : Int32).toInt64 = 0 := by decide
    rw [ea, eq]
    apply un_inj
    rw [if_neg (by decide)] at k
    have e9 : un (1000000000 : Int64) = 1000000000 := by decide
    rw [fn_ok k.1 (by decide) (by rw [k.2, e9]; decide), k.2, e9]
  · have hv : vl_wv x 1 z = m_val (wv_P x 1) (wv_V x 1) z := (if_neg r.1).trans ((if_pos r.2).trans (if_neg hx))
    rw [hv]
    have k := wv_eq (c := 1) (u := u) (z := z) (qn := 1) r.1 r.2 (Or.inr rfl) hx (by decide) (by
      unfold wt wvt
      rw [if_neg (by decide), if_pos rfl, if_neg (by decide)])
    rw [← eq] at k
    exact k
