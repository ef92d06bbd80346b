/-! waves: one pass of the reference -/
theorem wv_yy {G : Nat → Int64} {P y : Int} {c b : Int32} (a8 : ok 8 G) (a7 : ok 7 G) (a4 : ok 4 G) (b7 : vv 7 G 24 = P) (b4 : vv 4 G 24 = P / 2) (b8 : vv 8 G 24 = y) (hl : y < P) :
    ∃ re : Bool, ok 8 (wv_2 G) ∧ vv 8 (wv_2 G) 24 = (if re then P - y else y) ∧ (re = true → P / 2 < y) ∧ (re = false → y ≤ P / 2) ∧ wv_3 c b G = if re then (if b = c then 0 else 1) else b := by
  unfold wv_2 wv_3
  by_cases q : md_ag 8 4 G 24 ≤ 0
  · have q2 := (ag_le a8 a4).mp q
    rw [b8, b4] at q2
    refine ⟨false, ?_⟩
    rw [if_pos q, if_pos q]
    exact ⟨a8, by rw [b8]; rfl, fun h => absurd h (by decide), fun _ => q2, rfl⟩
  · have q2 : ¬ vv 8 G 24 ≤ vv 4 G 24 := fun z => q ((ag_le a8 a4).mpr z)
    rw [b8, b4] at q2
    have c1 := cp_ok (r := 6) (a := 7) (by decide) a7
    have l1 := les_ok (r := 6) (a := 8) (by decide) c1.1 (fr_ok c1.2.1 (by decide) a8)
    have lv := l1.2.2
    rw [c1.2.2, fr_vv c1.2.1 (by decide), b7, b8] at lv
    have c2 := cp_ok (r := 8) (a := 6) (by decide) l1.1
    refine ⟨true, ?_⟩
    rw [if_neg q, if_neg q]
    refine ⟨c2.1, by rw [c2.2.2, lv (Int.le_of_lt hl)]; rfl, fun _ => by omega, fun h => absurd h (by decide), rfl⟩
theorem k_31 {k B P X : Int} (hB : 0 < B) (hk : 0 ≤ k) (h1 : 314 * B ≤ 100 * P) (h2 : k * P ≤ X) (h3 : X ≤ 100 * B) : k ≤ 31 := by
  by_cases c : k ≤ 31
  · exact c
  · exfalso
    have m := Int.mul_le_mul_of_nonneg_right (show 32 ≤ k by omega) (show 0 ≤ P by omega)
    generalize k * P = Q at *
    omega
theorem y_85 {re : Bool} {P y B : Int} (h : 100 * P ≤ 315 * B) (h0 : 0 ≤ y) (hl : y < P) (h1 : re = true → P / 2 < y) (h2 : re = false → y ≤ P / 2) : 0 ≤ (if re then P - y else y) ∧ 5 * (if re then P - y else y) ≤ 8 * B ∧ 2 * (if re then P - y else y) ≤ P := by
  cases re with
  | false => have := h2 rfl; rw [if_neg (by decide)]; omega
  | true => have := h1 rfl; rw [if_pos rfl]; omega
theorem say_ng {n : Int} {y : Int64} (h : y.toInt = n) (h0 : 0 ≤ n) (h1 : n ≤ 4000000000) : (-y - 1).toInt = -n - 1 := by
  have e : (-y).toInt = -n := by
    rw [Int64.toInt_neg, h]
    exact Int.bmod_eq_of_le (by omega) (by omega)
  have e1 : (1 : Int64).toInt = 1 := rfl
  rw [tI_sub (by rw [e, e1]; omega) (by rw [e, e1]; omega), e, e1]
theorem z_big {W Z e q : Rat} {b3 : Int32} (h : nb (W - (if b3 = 0 then Z else -Z)) (220 * e)) (hn : ¬ nb (1000000000 * W) q) (he : 220 * e * 1000000000 ≤ q / 4) (hz : -(q / 4000000000) ≤ Z) (hq : 0 < q) : q / 4 ≤ 1000000000 * Z := by
  obtain ⟨h1, h2⟩ := h
  refine Decidable.byContradiction (fun c => hn ?_)
  by_cases hb : b3 = 0
  · rw [if_pos hb] at h1 h2
    constructor <;> grind
  · rw [if_neg hb] at h1 h2
    constructor <;> grind
theorem wv_say {x c : Int32} {f : Nat} {z : S2} (hf : f = 11 ∨ f = 17) (h1 : ¬ x < -100000000) (h2 : x ≤ 100000000) (hc : c = 0 ∨ c = 1) (hX1 : 1 ≤ x.toInt.natAbs) :
    ∃ b : Rat, (((1000000 : Int) ^ f : Int) : Rat) * ((wv_V x c f z).toInt : Rat) ≤ b ∧ b ≤ (((1000000 : Int) ^ f : Int) : Rat) * ((wv_V x c f z).toInt : Rat) + (((1000000 : Int) ^ f : Int) : Rat) ∧ nb (b - (((1000000 : Int) ^ f : Int) : Rat) * (1000000000 * wvt c x)) ((((1000000 : Int) ^ f : Int) : Rat) * (1/137438953472)) ∧ -34359738368 ≤ (wv_V x c f z).toInt := by
  have hB := pw_pos f
  have x0 : -100000000 ≤ x.toInt := by
    have : ¬ x.toInt < (-100000000 : Int32).toInt := fun q => h1 ((i32_lt _ _).mpr q)
    have e : (-100000000 : Int32).toInt = -100000000 := rfl
    omega
  have x9 : x.toInt ≤ 100000000 := by
    have := (i32_le _ _).mp h2
    have e : (100000000 : Int32).toInt = 100000000 := rfl
    omega
  have f20 : f ≤ 20 := by omega
  have f0 : 0 < f := by omega
  obtain ⟨o8, o7, o4, -, -, p4, p8⟩ := wv_g0_ok (g := z.1) f20 f0 h1 h2
  obtain ⟨-, fr8, v8⟩ := pw_x8 (f := f) (g := hfr f z.1) (x := x) (B := 100000000) f20 (by omega) x9 (by decide)
  have v7 : vv 7 (wv_g0 x f z.1) 24 = pie f := by
    have E : wv_g0 x f z.1 = pw_x f x (hfr f z.1) := rfl
    rw [E, fr_vv fr8 (by decide), pi_val hf]
  have v8' : vv 8 (wv_g0 x f z.1) 24 = (x.toInt.natAbs : Int) * 1000000 ^ f / 1000000 := by
    have ab : (ab9 x).toInt = (x.toInt.natAbs : Int) := by
      rw [ab9_eq (by omega)]
      split <;> omega
    rw [← ab]
    exact v8
  obtain ⟨-, w1, w2⟩ := wv_st (g := z.1) f20 f0 h1 h2
  obtain ⟨a8, a7, a4, b7, b4, b8⟩ := wv_inv o8 o7 o4 (wv_k (wv_g0 x f z.1)) w1
  have EV : wv_V x c f z = m_say f (wv_3 c (wv_b (wv_0 x c) (wv_k (wv_g0 x f z.1))) (wv_it (wv_g0 x f z.1) (wv_k (wv_g0 x f z.1)))) (m_tol (qur f c (wv_2 (wv_it (wv_g0 x f z.1) (wv_k (wv_g0 x f z.1)))) z.2)) := rfl
  rw [EV]
  have lt := (ag_lt a8 a7).mp w2
  have n0 := vv_nn a8
  rw [p4, v7] at b4
  rw [v7] at b7
  rw [v7, v8'] at b8
  rw [v8'] at p8
  rw [b7] at lt
  generalize wv_it (wv_g0 x f z.1) (wv_k (wv_g0 x f z.1)) = G at *
  generalize wv_k (wv_g0 x f z.1) = k at *
  clear EV w1 w2 o8 o7 o4 p4 fr8 v8 v7 v8'
  obtain ⟨c0, hc0⟩ := b_11_17 hf
  obtain ⟨g1, g2⟩ := pie_bd hf
  have X8 : (x.toInt.natAbs : Int) * 1000000 ^ f / 1000000 = (x.toInt.natAbs : Int) * c0 := by
    rw [hc0, show (x.toInt.natAbs : Int) * (1000000 * c0) = (x.toInt.natAbs : Int) * c0 * 1000000 by grind, Int.mul_ediv_cancel _ (by decide)]
  rw [X8] at b8 p8
  rw [b8] at n0 lt
  have k31 : k ≤ 31 := by
    have := k_31 (k := (k : Int)) hB (by omega) g1 (show (k : Int) * pie f ≤ (x.toInt.natAbs : Int) * c0 by omega) p8
    omega
  obtain ⟨re, y1, y2, y3, y4, y5⟩ := wv_yy (c := c) (b := wv_b (wv_0 x c) k) a8 a7 a4 b7 b4 b8 lt
  obtain ⟨u0, u1, u2⟩ := y_85 (re := re) (B := 1000000 ^ f) g2 n0 lt y3 y4
  rw [← y2] at u0 u1 u2
  -- over Rat
  have hBr : (0 : Rat) < (((1000000 : Int) ^ f : Int) : Rat) := by
    have : ((0 : Int) : Rat) < (((1000000 : Int) ^ f : Int) : Rat) := Rat.intCast_lt_intCast.mpr hB
    simpa using this
  have hne : (((1000000 : Int) ^ f : Int) : Rat) ≠ 0 := by grind
  have hr : (((1000000 : Int) ^ f : Int) : Rat) * ((vv 8 (wv_2 G) 24 : Rat) / (((1000000 : Int) ^ f : Int) : Rat)) = (vv 8 (wv_2 G) 24 : Rat) := by
    generalize (((1000000 : Int) ^ f : Int) : Rat) = B at *
    grind
  obtain ⟨oq, S, q1, q2⟩ := qur_val hf (z := c) (p := z.2) y1 u1 hr
  generalize hrr : (vv 8 (wv_2 G) 24 : Rat) / (((1000000 : Int) ^ f : Int) : Rat) = r at hr q2
  have hr1 : (((1000000 : Int) ^ f : Int) : Rat) * ((((x.toInt.natAbs : Int) * c0 - (k : Int) * pie f : Int) : Rat) / (((1000000 : Int) ^ f : Int) : Rat)) = (((x.toInt.natAbs : Int) * c0 - (k : Int) * pie f : Int) : Rat) := by
    generalize (((1000000 : Int) ^ f : Int) : Rat) = B at *
    grind
  generalize (((x.toInt.natAbs : Int) * c0 - (k : Int) * pie f : Int) : Rat) / (((1000000 : Int) ^ f : Int) : Rat) = r1 at hr1
  have hpi : (((1000000 : Int) ^ f : Int) : Rat) * pir f = (pie f : Rat) := by
    unfold pir
    generalize (((1000000 : Int) ^ f : Int) : Rat) = B at *
    grind
  obtain ⟨pc, ps⟩ := pir_ok hf
  obtain ⟨pb0, pb1, pb2, pb3⟩ := pir_bd hf
  have hcr : (((1000000 : Int) ^ f : Int) : Rat) = 1000000 * (c0 : Rat) := by
    rw [hc0, Rat.intCast_mul]
    have : ((1000000 : Int) : Rat) = 1000000 := by simp
    rw [this]
  have hd6 : wn_d * 1000000 = 1 := by decide +kernel
  have r10 : 0 ≤ r1 := by
    refine mul_cancel_le hBr ?_
    rw [hr1]
    have : ((0 : Int) : Rat) ≤ (((x.toInt.natAbs : Int) * c0 - (k : Int) * pie f : Int) : Rat) := Rat.intCast_le_intCast.mpr n0
    have e : ((0 : Int) : Rat) = 0 := rfl
    rw [e] at this
    generalize (((1000000 : Int) ^ f : Int) : Rat) = B at *
    grind
  have r1p : r1 ≤ pir f := by
    refine mul_cancel_le hBr ?_
    rw [hr1, hpi]
    exact Rat.intCast_le_intCast.mpr (Int.le_of_lt lt)
  have r1x : r1 + (k : Rat) * pir f = (x.toInt.natAbs : Rat) * wn_d := by
    refine mul_inj hBr ?_
    rw [Rat.intCast_sub, Rat.intCast_mul, Rat.intCast_mul] at hr1
    have e1 : (((x.toInt.natAbs : Nat) : Int) : Rat) = (x.toInt.natAbs : Rat) := rfl
    have e2 : (((k : Nat) : Int) : Rat) = (k : Rat) := rfl
    rw [e1, e2, ← hpi] at hr1
    generalize (((1000000 : Int) ^ f : Int) : Rat) = B at *
    generalize (x.toInt.natAbs : Rat) = X at *
    generalize (c0 : Rat) = C0 at *
    generalize pir f = p at *
    generalize wn_d = d at *
    have e3 : B * (X * d) = X * C0 * (d * 1000000) := by rw [hcr]; grind
    rw [e3, hd6]
    grind
  obtain ⟨t1, t2⟩ := turn_h (r := r1) (p := pir f) r10 (by grind) pb0 pb1 pb3 pc ps k k31
  rw [r1x] at t1 t2
  have e0 : (0 : Rat) ≤ 1 / ((2 ^ 200 : Nat) : Rat) := by decide +kernel
  have k9 : (k : Rat) ≤ 31 := by
    have : (k : Rat) ≤ ((31 : Nat) : Rat) := Rat.natCast_le_natCast.mpr k31
    simpa using this
  have k200 : 5 * (k : Rat) * (1 / ((2 ^ 200 : Nat) : Rat)) ≤ 200 * (1 / ((2 ^ 200 : Nat) : Rat)) := by
    generalize (1 / ((2 ^ 200 : Nat) : Rat) : Rat) = e at *
    have := Rat.mul_le_mul_of_nonneg_right k9 e0
    grind
  have hre : if re then nb (cc r + cc r1) (20 * (1 / ((2 ^ 200 : Nat) : Rat))) ∧ nb (ss r - ss r1) (20 * (1 / ((2 ^ 200 : Nat) : Rat))) else cc r = cc r1 ∧ ss r = ss r1 := by
    cases re with
    | false =>
      rw [if_neg (by decide)] at y2 ⊢
      have : r = r1 := by
        refine mul_inj hBr ?_
        rw [hr, hr1, y2]
      rw [this]
      exact ⟨rfl, rfl⟩
    | true =>
      rw [if_pos rfl] at y2 ⊢
      have : r = pir f - r1 := by
        refine mul_inj hBr ?_
        rw [hr, y2, Rat.intCast_sub, ← hpi, ← hr1]
        generalize (((1000000 : Int) ^ f : Int) : Rat) = B
        grind
      rw [this]
      exact refl_p r10 r1p pb1 pb3 pc ps
  have sg9 := wv_sg (c := c) (x := x) (k := k) (re := re) hc e0 (nb_mono t1 k200) (nb_mono t2 k200) hre y5
  generalize hb3 : wv_3 c (wv_b (wv_0 x c) k) G = b3 at *
  have ew : (if c = 0 then (if 0 ≤ x then ss ((x.toInt.natAbs : Rat) * wn_d) else -ss ((x.toInt.natAbs : Rat) * wn_d)) else cc ((x.toInt.natAbs : Rat) * wn_d)) = wvt c x := rfl
  rw [ew] at sg9
  -- the value is above 0
  have r0 : 0 ≤ r := by
    refine mul_cancel_le hBr ?_
    rw [hr]
    have : ((0 : Int) : Rat) ≤ (vv 8 (wv_2 G) 24 : Rat) := Rat.intCast_le_intCast.mpr u0
    have e : ((0 : Int) : Rat) = 0 := rfl
    rw [e] at this
    generalize (((1000000 : Int) ^ f : Int) : Rat) = B at *
    grind
  have r2p : 2 * r ≤ pir f := by
    refine mul_cancel_le hBr ?_
    have : ((2 * vv 8 (wv_2 G) 24 : Int) : Rat) ≤ (pie f : Rat) := Rat.intCast_le_intCast.mpr u2
    rw [Rat.intCast_mul, ← hr, ← hpi] at this
    have e : ((2 : Int) : Rat) = 2 := by simp
    rw [e] at this
    generalize (((1000000 : Int) ^ f : Int) : Rat) = B at *
    grind
  have r85 : r ≤ 8/5 := by grind
  have z4 : -(1 / ((2 ^ 140 : Nat) : Rat)) ≤ (if c = 0 then ss r else cc r) := by
    have e4 : (0 : Rat) ≤ 1 / ((2 ^ 140 : Nat) : Rat) := by decide +kernel
    rcases hc with hc | hc
    · rw [if_pos hc]
      have := ss_pos r0 r85
      generalize (1 / ((2 ^ 140 : Nat) : Rat) : Rat) = e at *
      grind
    · rw [if_neg (by rw [hc]; decide)]
      refine cc_low r0 ?_
      have d : 1 / ((2 ^ 158 : Nat) : Rat) ≤ 2 * (1 / ((2 ^ 150 : Nat) : Rat)) := by decide +kernel
      have := pb2.2
      generalize (1 / ((2 ^ 158 : Nat) : Rat) : Rat) = e8 at *
      generalize (1 / ((2 ^ 150 : Nat) : Rat) : Rat) = e5 at *
      grind
  have zb : nb (if c = 0 then ss r else cc r) 2 := by
    obtain ⟨b1, b2⟩ := cs_bd (show nb r 2 from ⟨by grind, by grind⟩) (by decide +kernel)
    split
    · exact b2
    · exact b1
  have nw : ¬ nb (1000000000 * wvt c x) (1/137438953472) := by
    obtain ⟨l1, l2⟩ := wv_low hX1 (show x.toInt.natAbs ≤ 100000000 by omega)
    unfold wvt
    rcases hc with hc | hc
    · rw [if_pos hc]
      split
      · exact l1
      · intro q
        have q2 := nb_neg q
        have e : -(1000000000 * -ss ((x.toInt.natAbs : Rat) * wn_d)) = 1000000000 * ss ((x.toInt.natAbs : Rat) * wn_d) := by grind
        rw [e] at q2
        exact l1 q2
    · rw [if_neg (by rw [hc]; decide)]
      exact l2
  generalize (if c = 0 then ss r else cc r) = Z at *
  have zbig := z_big (q := 1/137438953472) sg9 nw (by decide +kernel) (by
    have d : 1 / ((2 ^ 140 : Nat) : Rat) ≤ (1/137438953472) / 4000000000 := by decide +kernel
    generalize (1 / ((2 ^ 140 : Nat) : Rat) : Rat) = e at *
    grind) (by decide +kernel)
  have B66 : (((10 : Int) ^ 66 : Int) : Rat) ≤ (((1000000 : Int) ^ f : Int) : Rat) := Rat.intCast_le_intCast.mpr (b66 hf).1
  have d66 : (1000000000000000000000000000000 : Rat) ≤ (((10 : Int) ^ 66 : Int) : Rat) := by decide +kernel
  have Bbig : (1000000000000000000000000000000 : Rat) ≤ (((1000000 : Int) ^ f : Int) : Rat) := Rat.le_trans d66 B66
  have S0 : 0 ≤ S := by
    have : ((0 : Int) : Rat) ≤ (S : Rat) := by
      have e : ((0 : Int) : Rat) = 0 := rfl
      rw [e]
      have q := q2.1
      generalize (((1000000 : Int) ^ f : Int) : Rat) = B at *
      have zz : (1/600000000000000000000 : Rat) ≤ Z := by
        have : (1/600000000000000000000 : Rat) * 1000000000 ≤ (1/137438953472) / 4 := by decide +kernel
        grind
      have m := Rat.mul_le_mul_of_nonneg_right zz (Rat.le_of_lt hBr)
      have m2 := Rat.mul_le_mul_of_nonneg_right Bbig (show (0 : Rat) ≤ 1/600000000000000000000 by decide +kernel)
      grind
    exact Rat.intCast_le_intCast.mp this
  have S3 : S ≤ 3 * 1000000 ^ f := by
    have : (S : Rat) ≤ ((3 * 1000000 ^ f : Int) : Rat) := by
      rw [Rat.intCast_mul]
      have e : ((3 : Int) : Rat) = 3 := by simp
      rw [e]
      have q := q2.2
      have z2 := zb.2
      generalize (((1000000 : Int) ^ f : Int) : Rat) = B at *
      have m := Rat.mul_le_mul_of_nonneg_right z2 (Rat.le_of_lt hBr)
      grind
    exact Rat.intCast_le_intCast.mp this
  -- what it says
  have r4 := pw_one (f := f + 4) (by omega)
  have e24 : (1000000 : Int) ^ (f + 4) = 1000000 ^ f * 1000000000000000000000000 := by rw [Int.pow_add]; rfl
  rw [e24] at r4
  have vS : vv 0 (qur f c (wv_2 G) z.2).1 24 = S := by
    rw [q1]
    refine Int.emod_eq_of_lt S0 ?_
    generalize (1000000 : Int) ^ f = B at *
    generalize (1000000 : Int) ^ 24 = Q at *
    omega
  have e9 : (1000000000 : Int64).toInt = 1000000000 := rfl
  have t := tim_ok (r := 0) (m := 1000000000) oq (by decide) (by decide)
  have tv := t.2.2 (by
    rw [vS, e9]
    generalize (1000000 : Int) ^ f = B at *
    generalize (1000000 : Int) ^ 24 = Q at *
    omega)
  rw [vS, e9] at tv
  have be := be_ok (f := f) (r := 0) (by omega) t.1 (by
    rw [tv]
    generalize (1000000 : Int) ^ f = B at *
    omega)
  rw [tv] at be
  have nn : 0 ≤ S * 1000000000 / 1000000 ^ f := Int.ediv_nonneg (by omega) (Int.le_of_lt hB)
  have n4 : S * 1000000000 / 1000000 ^ f ≤ 4000000000 := by
    refine Int.le_trans (Int.ediv_le_ediv hB (show S * 1000000000 ≤ 4000000000 * 1000000 ^ f by
      generalize (1000000 : Int) ^ f = B at *
      omega)) ?_
    rw [Int.mul_ediv_cancel _ (by omega)]
    exact Int.le_refl _
  obtain ⟨d1, d2⟩ := rd_le (p := S * 1000000000) hB
  rw [Rat.intCast_mul] at d1 d2
  have c9 : ((1000000000 : Int) : Rat) = 1000000000 := by simp
  rw [c9] at d1 d2
  have qq := nb_mul q2 (show nb (1000000000 : Rat) 1000000000 from ⟨by decide +kernel, by decide +kernel⟩)
  have ww := nb_mul sg9 (show nb ((((1000000 : Int) ^ f : Int) : Rat) * 1000000000) ((((1000000 : Int) ^ f : Int) : Rat) * 1000000000) from ⟨by grind, by grind⟩)
  have er : 2100 * 1000000000 + 220 * (1 / ((2 ^ 200 : Nat) : Rat)) * ((((1000000 : Int) ^ f : Int) : Rat) * 1000000000) ≤ (((1000000 : Int) ^ f : Int) : Rat) * (1/137438953472) := by
    have a1 : (2100 * 1000000000 : Rat) ≤ 1000000000000000000000000000000 * (1/274877906944) := by decide +kernel
    have a2 : 220 * (1 / ((2 ^ 200 : Nat) : Rat)) * 1000000000 ≤ 1/274877906944 := by decide +kernel
    generalize (1 / ((2 ^ 200 : Nat) : Rat) : Rat) = e at *
    generalize (((1000000 : Int) ^ f : Int) : Rat) = B at *
    have m1 := Rat.mul_le_mul_of_nonneg_right Bbig (show (0 : Rat) ≤ 1/274877906944 by decide +kernel)
    have m2 := Rat.mul_le_mul_of_nonneg_right a2 (Rat.le_of_lt hBr)
    grind
  have msay : m_say f b3 (m_tol (qur f c (wv_2 G) z.2)) = if b3 = 0 then mr_be f 0 (mr_tim 0 1000000000 (qur f c (wv_2 G) z.2).1) else -(mr_be f 0 (mr_tim 0 1000000000 (qur f c (wv_2 G) z.2).1)) - 1 := rfl
  rw [msay]
  by_cases hb : b3 = 0
  · rw [if_pos hb, be]
    rw [if_pos hb] at ww
    refine ⟨(S : Rat) * 1000000000, d1, d2, ?_, by omega⟩
    obtain ⟨x1, x2⟩ := qq
    obtain ⟨x3, x4⟩ := ww
    generalize 220 * (1 / ((2 ^ 200 : Nat) : Rat)) * ((((1000000 : Int) ^ f : Int) : Rat) * 1000000000) = E at *
    generalize (((1000000 : Int) ^ f : Int) : Rat) = B at *
    generalize wvt c x = W at *
    constructor <;> grind
  · rw [if_neg hb, say_ng be nn n4]
    rw [if_neg hb] at ww
    have ec : ((-(S * 1000000000 / 1000000 ^ f) - 1 : Int) : Rat) = -((S * 1000000000 / 1000000 ^ f : Int) : Rat) - 1 := by
      rw [Rat.intCast_sub, Rat.intCast_neg]; rfl
    refine ⟨-((S : Rat) * 1000000000), ?_, ?_, ?_, by omega⟩
    · rw [ec]
      generalize ((S * 1000000000 / 1000000 ^ f : Int) : Rat) = n at *
      generalize (((1000000 : Int) ^ f : Int) : Rat) = B at *
      grind
    · rw [ec]
      generalize ((S * 1000000000 / 1000000 ^ f : Int) : Rat) = n at *
      generalize (((1000000 : Int) ^ f : Int) : Rat) = B at *
      grind
    · obtain ⟨x1, x2⟩ := qq
      obtain ⟨x3, x4⟩ := ww
      generalize 220 * (1 / ((2 ^ 200 : Nat) : Rat)) * ((((1000000 : Int) ^ f : Int) : Rat) * 1000000000) = E at *
      generalize (((1000000 : Int) ^ f : Int) : Rat) = B at *
      generalize wvt c x = W at *
      constructor <;> grind
