/-! EQ_lg -/
theorem fl_int2 {V t a A b B : Rat} {n1 n2 : Int} (hA : 0 < A) (hB : 0 < B) (a1 : A * (n1 : Rat) ≤ a) (a2 : a ≤ A * (n1 : Rat) + A) (b1 : B * (n2 : Rat) ≤ b) (b2 : b ≤ B * (n2 : Rat) + B) (h1 : nb (a - A * V) (A * t)) (h2 : nb (b - B * V) (B * t)) (ni : ∀ k : Int, ¬ nb (V - (k : Rat)) t) : n1 = n2 := by
  obtain ⟨c1, c2⟩ := h1
  obtain ⟨d1, d2⟩ := h2
  rcases Int.lt_trichotomy n1 n2 with h | h | h
  · exfalso
    have r : ((n1 + 1 : Int) : Rat) ≤ (n2 : Rat) := Rat.intCast_le_intCast.mpr h
    rw [Rat.intCast_add] at r
    have e1 : ((1 : Int) : Rat) = 1 := rfl
    rw [e1] at r
    have m := Rat.mul_le_mul_of_nonneg_left r (Rat.le_of_lt hA)
    refine ni n2 ⟨?_, ?_⟩
    · exact mul_cancel_le hB (by grind)
    · exact mul_cancel_le hA (by grind)
  · exact h
  · exfalso
    have r : ((n2 + 1 : Int) : Rat) ≤ (n1 : Rat) := Rat.intCast_le_intCast.mpr h
    rw [Rat.intCast_add] at r
    have e1 : ((1 : Int) : Rat) = 1 := rfl
    rw [e1] at r
    have m := Rat.mul_le_mul_of_nonneg_left r (Rat.le_of_lt hB)
    refine ni n1 ⟨?_, ?_⟩
    · exact mul_cancel_le hA (by grind)
    · exact mul_cancel_le hB (by grind)
theorem lg_dif {r6 rv v : Rat} (n6 : nb r6 50) (nv : nb rv 50) (v1 : 1 ≤ v) (h6 : nb (ee r6 - 1000000) (100 * e95 * 1000000)) (hv : nb (ee rv - v) (100 * e95 * v)) : nb (ee (rv - r6) * 1000000 - v) (400 * e95 * v) := by
  obtain ⟨e0, e1, e2⟩ := e95_ok
  have t0 := t4_0
  have nd : nb (rv - r6) 100 := by
    obtain ⟨a1, a2⟩ := n6
    obtain ⟨b1, b2⟩ := nv
    constructor <;> grind
  have k := ee_add nd n6 (by decide +kernel)
  rw [show rv - r6 + r6 = rv by grind] at k
  have X0 := Rat.le_of_lt (ee_pos nd (by decide +kernel))
  generalize ee (rv - r6) = X at *
  generalize ee r6 = Y at *
  generalize ee rv = Z at *
  have ev := Rat.mul_le_mul_of_nonneg_left v1 e0
  have ev0 : 0 ≤ e95 * v := by grind
  have ev1 := Rat.mul_le_mul_of_nonneg_right e1 (show 0 ≤ v by grind)
  have Y9 : 999999 ≤ Y := by have := h6.1; grind
  have m0 := Rat.mul_le_mul_of_nonneg_left Y9 X0
  have X9 : 1000000 * X ≤ 3/2 * v := by
    have := k.2
    have := hv.2
    grind
  have m := nb_mul (show nb X X from ⟨by grind, by grind⟩) h6
  have m2 := Rat.mul_le_mul_of_nonneg_right X9 e0
  obtain ⟨a1, a2⟩ := m
  obtain ⟨b1, b2⟩ := k
  obtain ⟨c1, c2⟩ := hv
  constructor <;> grind
theorem eta_4 : 0 ≤ eta ∧ eta ≤ 1/1000000000000000000 ∧ 10000000000000000000 * t4 ≤ eta ∧ 1000000 * e95 ≤ eta ∧ 8 * eta = etL := by decide +kernel
/-- two exponents of nearly one number: the greater one is hardly greater -/
theorem ee_inc {x d v p q : Rat} (nx : nb x 100) (d0 : 0 ≤ d) (d1 : d ≤ 100) (v1 : 1 ≤ v) (p0 : 0 ≤ p) (q0 : 0 ≤ q) (hpq : p + q ≤ 9/2 * eta) (hx : nb (ee x * 1000000 - v) (p * v)) (hy : nb (ee (x + d) * 1000000 - v) (q * v)) : d ≤ 5 * eta := by
  obtain ⟨e0, e1, e2, e3, -⟩ := eta_4
  have t0 := t4_0
  have k := ee_add nx (show nb d 100 from ⟨by grind, d1⟩) (by decide +kernel)
  have D1 := ee_nn d0
  have X0 := Rat.le_of_lt (ee_pos nx (by decide +kernel))
  generalize ee (x + d) = Y at *
  generalize ee d = D at *
  generalize ee x = X at *
  refine Decidable.byContradiction (fun c => ?_)
  have c' : 5 * eta ≤ d := by grind
  have m := Rat.mul_le_mul_of_nonneg_left (show 1 + 5 * eta ≤ D by grind) X0
  have pv : p ≤ 9/2 * eta := by grind
  have m2 := Rat.mul_le_mul_of_nonneg_right pv (show 0 ≤ v by grind)
  have m3 := Rat.mul_le_mul_of_nonneg_right hpq (show 0 ≤ v by grind)
  have m4 := Rat.mul_le_mul_of_nonneg_right e1 (show 0 ≤ v by grind)
  have ev := Rat.mul_le_mul_of_nonneg_left v1 e0
  have Xv : 999/1000 * v ≤ X * 1000000 := by have := hx.1; grind
  have m5 := Rat.mul_le_mul_of_nonneg_left Xv e0
  have a1 := hx.1
  have a2 := hy.2
  have a3 := k.2
  have ve : 0 < eta * v := by
    have : 0 < eta := by decide +kernel
    exact Rat.mul_pos this (by grind)
  grind
theorem ee_inj {a b v : Rat} (na : nb a 60) (hb9 : nb b 100) (nd : nb (a - b) 100) (v1 : 1 ≤ v) (ha : nb (ee a * 1000000 - v) (4 * eta * v)) (hb : nb (ee b * 1000000 - v) (400 * e95 * v)) : nb (a - b) (5 * eta) := by
  obtain ⟨e0, e1, e2, e3, -⟩ := eta_4
  obtain ⟨f0, f1, f2⟩ := e95_ok
  have s : 400 * e95 + 4 * eta ≤ 9/2 * eta := by grind
  obtain ⟨d1, d2⟩ := nd
  by_cases c : 0 ≤ a - b
  · have k := ee_inc (x := b) (d := a - b) hb9 c d2 v1 (show 0 ≤ 400 * e95 by grind) (show 0 ≤ 4 * eta by grind) s hb (by rw [show b + (a - b) = a by grind]; exact ha)
    constructor <;> grind
  · have k := ee_inc (x := a) (d := b - a) (nb_mono na (by decide +kernel)) (by grind) (by grind) v1 (show 0 ≤ 4 * eta by grind) (show 0 ≤ 400 * e95 by grind) (by grind) ha (by rw [show a + (b - a) = b by grind]; exact hb)
    constructor <;> grind
theorem ee_c0 : (1000000 + 1/100 : Rat) ≤ eS (138155106/10000000) 60 := by decide +kernel
theorem ee_top {y : Rat} (h : 138155106/10000000 ≤ y) (h2 : y ≤ 102) : (1000000 + 9/1000 : Rat) ≤ ee y := by
  have k := ee_add (u := 138155106/10000000) (v := y - 138155106/10000000) (α := 14) (β := 102) ⟨by grind, by grind⟩ ⟨by grind, by grind⟩ (by decide +kernel)
  rw [show 138155106/10000000 + (y - 138155106/10000000) = y by grind] at k
  have D := ee_nn (show 0 ≤ y - 138155106/10000000 by grind)
  have m := eS_mono (z := 138155106/10000000) (by decide +kernel) 740 60
  have c0 := ee_c0
  have e : ee (138155106/10000000) = eS (138155106/10000000) (60 + 740) := rfl
  rw [← e] at m
  have X0 : (0 : Rat) ≤ ee (138155106/10000000) := by grind
  have t1 := t4_1
  generalize ee (138155106/10000000) = X at *
  generalize ee (y - 138155106/10000000) = D' at *
  generalize ee y = Y at *
  generalize eS (138155106/10000000) 60 = C at *
  have m2 := Rat.mul_le_mul_of_nonneg_left (show 1 ≤ D' by grind) X0
  have := k.2
  grind
/-- no logarithm is near a whole number of billionths -/
theorem lg_ni {x k : Int} {r : Rat} (x1 : 1 ≤ x) (x2 : x ≤ 1000000000000) (x3 : x ≠ 1000000) (nr : nb r 60) (hr : nb (ee r * 1000000 - (x : Rat)) (400 * e95 * (x : Rat))) : ¬ nb (1000000000 * r - (k : Rat)) (1000000000 * (5 * eta)) := by
  intro hk
  obtain ⟨e0, e1, e2, e3, e4⟩ := eta_4
  obtain ⟨f0, f1, f2⟩ := e95_ok
  have t0 := t4_0
  have t1 := t4_1
  have xr : (1 : Rat) ≤ (x : Rat) := by
    have : ((1 : Int) : Rat) ≤ (x : Rat) := Rat.intCast_le_intCast.mpr x1
    simpa using this
  have xr2 : (x : Rat) ≤ 1000000000000 := by
    have : (x : Rat) ≤ ((1000000000000 : Int) : Rat) := Rat.intCast_le_intCast.mpr x2
    simpa using this
  have dk : nb ((k : Rat) / 1000000000 - r) (5 * eta) := by
    obtain ⟨a1, a2⟩ := hk
    constructor <;> grind
  have ks := ee_add nr (nb_mono dk (show 5 * eta ≤ 1 by grind)) (by decide +kernel)
  rw [show r + ((k : Rat) / 1000000000 - r) = (k : Rat) / 1000000000 by grind] at ks
  have ti := ee_tiny dk (show 5 * eta ≤ 1/2 by grind)
  have X0 := Rat.le_of_lt (ee_pos nr (by decide +kernel))
  have nk : nb ((k : Rat) / 1000000000) 61 := by
    obtain ⟨a1, a2⟩ := dk
    obtain ⟨b1, b2⟩ := nr
    constructor <;> grind
  have main : nb ((x : Rat) - 1000000 * ee ((k : Rat) / 1000000000)) (6 * eta * (x : Rat)) := by
    generalize ee ((k : Rat) / 1000000000) = Y at *
    generalize ee ((k : Rat) / 1000000000 - r) = D at *
    generalize ee r = X at *
    generalize (x : Rat) = v at *
    have ev := Rat.mul_le_mul_of_nonneg_left xr e0
    have fv := Rat.mul_le_mul_of_nonneg_right e3 (show 0 ≤ v by grind)
    have ev1 := Rat.mul_le_mul_of_nonneg_right e1 (show 0 ≤ v by grind)
    have ee1 := Rat.mul_le_mul_of_nonneg_left e1 e0
    have D1 : nb (D - 1) (51/10 * eta) := nb_mono ti (by grind)
    have X9 : X * 1000000 ≤ 1001/1000 * v := by have := hr.2; grind
    have m := nb_mul (show nb (X * 1000000) (1001/1000 * v) from ⟨by grind, X9⟩) D1
    obtain ⟨a1, a2⟩ := m
    obtain ⟨b1, b2⟩ := ks
    obtain ⟨c1, c2⟩ := hr
    constructor <;> grind
  have wide : nb ((x : Rat) - 1000000 * ee ((k : Rat) / 1000000000)) (etL * (x : Rat)) := by
    refine nb_mono main ?_
    rw [← e4]
    have := Rat.mul_nonneg e0 (show 0 ≤ (x : Rat) by grind)
    grind
  have ev1 := Rat.mul_le_mul_of_nonneg_right e1 (show 0 ≤ (x : Rat) by grind)
  have ev0 := Rat.mul_nonneg e0 (show 0 ≤ (x : Rat) by grind)
  by_cases c1 : k < -13815510600
  · have kr : (k : Rat) ≤ -13815510600 := by
      have : (k : Rat) ≤ ((-13815510600 : Int) : Rat) := Rat.intCast_le_intCast.mpr (by omega)
      simpa using this
    have tp := ee_top (y := -((k : Rat) / 1000000000)) (by grind) (by have := nk.1; grind)
    have k2 := ee_add nk (nb_neg nk) (by decide +kernel)
    rw [show (k : Rat) / 1000000000 + -((k : Rat) / 1000000000) = 0 by grind, ee_0] at k2
    have Y0 := Rat.le_of_lt (ee_pos nk (by decide +kernel))
    generalize ee (-((k : Rat) / 1000000000)) = Z at *
    generalize ee ((k : Rat) / 1000000000) = Y at *
    have m := Rat.mul_le_mul_of_nonneg_left tp Y0
    have := k2.2
    have := main.2
    have tt : t4 ≤ 1/1000000000000 := by decide +kernel
    grind
  · by_cases c2 : k < -989
    · exact lg_neg k x (by omega) c2 x1 wide
    · by_cases c3 : k < 990
      · -- near one
        have kb : nb ((k : Rat) / 1000000000) (989/1000000000) := by
          have a1 : ((-989 : Int) : Rat) ≤ (k : Rat) := Rat.intCast_le_intCast.mpr (by omega)
          have a2 : (k : Rat) ≤ ((989 : Int) : Rat) := Rat.intCast_le_intCast.mpr (by omega)
          have b1 : ((-989 : Int) : Rat) = -989 := by simp
          have b2 : ((989 : Int) : Rat) = 989 := by simp
          rw [b1] at a1
          rw [b2] at a2
          constructor <;> grind
        have tn := ee_tiny kb (by decide +kernel)
        generalize ee ((k : Rat) / 1000000000) = Y at *
        have cl : nb ((x : Rat) - 1000000) (999/1000) := by
          obtain ⟨a1, a2⟩ := tn
          obtain ⟨b1, b2⟩ := main
          constructor <;> grind
        obtain ⟨q1, q2⟩ := cl
        have i1 : x < 1000001 := by
          have : (x : Rat) < ((1000001 : Int) : Rat) := by
            have e : ((1000001 : Int) : Rat) = 1000001 := by simp
            rw [e]; grind
          exact Rat.intCast_lt_intCast.mp this
        have i2 : 999999 < x := by
          have : ((999999 : Int) : Rat) < (x : Rat) := by
            have e : ((999999 : Int) : Rat) = 999999 := by simp
            rw [e]; grind
          exact Rat.intCast_lt_intCast.mp this
        exact x3 (by omega)
      · by_cases c4 : k < 13815510600
        · exact lg_pos k x (by omega) c4 x1 wide
        · have kr : (13815510600 : Rat) ≤ (k : Rat) := by
            have : ((13815510600 : Int) : Rat) ≤ (k : Rat) := Rat.intCast_le_intCast.mpr (by omega)
            simpa using this
          have tp := ee_top (y := (k : Rat) / 1000000000) (by grind) (by have := nk.2; grind)
          generalize ee ((k : Rat) / 1000000000) = Y at *
          have := main.1
          grind
/-- one pass of the reference -/
theorem lg_say {v : Int64} {f : Nat} {z : S2} (hf : f = 11 ∨ f = 17) (h0 : 0 < v.toInt) (hv : v.toInt ≤ 1000000000000) (h6 : v.toInt ≠ 1000000) :
    ∃ r : Rat, nb r 50 ∧ nb (ee r * 1000000 - (v.toInt : Rat)) (400 * e95 * (v.toInt : Rat)) ∧ (((1000000 : Int) ^ f : Int) : Rat) * ((lg_V v f z).toInt : Rat) ≤ (((1000000 : Int) ^ f : Int) : Rat) * (1000000000 * r) ∧ (((1000000 : Int) ^ f : Int) : Rat) * (1000000000 * r) ≤ (((1000000 : Int) ^ f : Int) : Rat) * ((lg_V v f z).toInt : Rat) + (((1000000 : Int) ^ f : Int) : Rat) := by
  have hB := pw_pos f
  have hBr : (0 : Rat) < (((1000000 : Int) ^ f : Int) : Rat) := by
    have : ((0 : Int) : Rat) < (((1000000 : Int) ^ f : Int) : Rat) := Rat.intCast_lt_intCast.mpr hB
    simpa using this
  have f24 : f ≤ 24 := by omega
  have rm := wh_room (f := f) (v := 1000000000000) (by omega) (by decide) (by decide)
  obtain ⟨e0, e1, e2⟩ := e95_ok
  have t0 := t4_0
  have t1 := t4_1
  have c6 : (1000000 : Int64).toInt = 1000000 := rfl
  obtain ⟨o6, -, p60, p61, r6, hr6, nr6, ee6⟩ := lor_val (f := f) (v := 1000000) (g := z.1) (p := z.2) hf (by decide) (by decide)
  have cp := cp_ok (r := 6) (a := 0) (g := (lor f 1000000 z.1 z.2).1) (by decide) o6
  have E1 : (lg_1 f z).1 = mr_cp 6 0 (lor f 1000000 z.1 z.2).1 := rfl
  rw [← E1] at cp
  obtain ⟨ov, fv, pv0, pv1, rv, hrv, nrv, eev⟩ := lor_val (f := f) (v := v) (g := (lg_1 f z).1) (p := (lg_1 f z).2) hf h0 hv
  obtain ⟨q6, w6⟩ := fv 6 (by decide) cp.1
  have EP : (lg_P v f z).1 = mr_tim 0 1000000000 (lg_3 v (lor f v (lg_1 f z).1 (lg_1 f z).2).1) := rfl
  have EV : lg_V v f z = if lg_b v = 0 then mr_be f 0 (lg_P v f z).1 else -(mr_be f 0 (lg_P v f z).1) - 1 := rfl
  rw [cp.2.2] at w6
  generalize (lor f v (lg_1 f z).1 (lg_1 f z).2).1 = G at *
  clear fv E1 cp
  generalize vv 0 (lor f 1000000 z.1 z.2).1 24 = L6 at *
  rw [c6] at ee6
  have e6 : ((1000000 : Int) : Rat) = 1000000 := by simp
  rw [e6] at ee6
  have vr : (1 : Rat) ≤ (v.toInt : Rat) := by
    have : ((1 : Int) : Rat) ≤ (v.toInt : Rat) := Rat.intCast_le_intCast.mpr (by omega)
    simpa using this
  have dif := lg_dif nr6 nrv vr ee6 eev
  have r60 : 0 ≤ r6 := by
    refine mul_cancel_le hBr ?_
    rw [hr6]
    have : ((0 : Int) : Rat) ≤ (L6 : Rat) := Rat.intCast_le_intCast.mpr p60
    have e : ((0 : Int) : Rat) = 0 := rfl
    rw [e] at this
    grind
  have rv0 : 0 ≤ rv := by
    refine mul_cancel_le hBr ?_
    rw [hrv]
    have : ((0 : Int) : Rat) ≤ (vv 0 G 24 : Rat) := Rat.intCast_le_intCast.mpr pv0
    have e : ((0 : Int) : Rat) = 0 := rfl
    rw [e] at this
    grind
  have nrr : nb (rv - r6) 50 := by
    obtain ⟨a1, a2⟩ := nr6
    obtain ⟨b1, b2⟩ := nrv
    constructor <;> grind
  have ev1 := Rat.mul_le_mul_of_nonneg_right e1 (show 0 ≤ (v.toInt : Rat) by grind)
  have e9 : (1000000000 : Int64).toInt = 1000000000 := rfl
  -- what is said of a difference
  have say : ∀ (D : Int), 0 ≤ D → D ≤ 100 * 1000000 ^ f → ok 0 (lg_3 v G) → vv 0 (lg_3 v G) 24 = D → (mr_be f 0 (lg_P v f z).1).toInt = D * 1000000000 / 1000000 ^ f ∧ 0 ≤ D * 1000000000 / 1000000 ^ f ∧ D * 1000000000 / 1000000 ^ f ≤ 100000000000 := fun D d0 d1 oD vD => by
    have t := tim_ok (r := 0) (m := 1000000000) oD (by decide) (by decide)
    have tv := t.2.2
    rw [vD, e9] at tv
    have tv' := tv (by generalize (1000000 : Int) ^ 24 = P at *; generalize (1000000 : Int) ^ f = B at *; omega)
    have b := be_ok (f := f) f24 t.1 (by rw [tv']; generalize (1000000 : Int) ^ f = B at *; omega)
    rw [← EP] at b tv'
    rw [tv'] at b
    refine ⟨b, Int.ediv_nonneg (by omega) (Int.le_of_lt hB), ?_⟩
    exact Int.ediv_le_of_le_mul hB (by generalize (1000000 : Int) ^ f = B at *; omega)
  have rdn : ∀ (D : Int), (((1000000 : Int) ^ f : Int) : Rat) * ((D * 1000000000 / 1000000 ^ f : Int) : Rat) ≤ (D : Rat) * 1000000000 ∧ (D : Rat) * 1000000000 ≤ (((1000000 : Int) ^ f : Int) : Rat) * ((D * 1000000000 / 1000000 ^ f : Int) : Rat) + (((1000000 : Int) ^ f : Int) : Rat) := fun D => by
    have d := rd_le (p := D * 1000000000) hB
    rw [Rat.intCast_mul] at d
    have e : ((1000000000 : Int) : Rat) = 1000000000 := by simp
    rw [e] at d
    exact d
  by_cases big : 1000000 ≤ v.toInt
  · -- above one
    have lb : lg_b v = 0 := if_pos ((i64_le 1000000 v).mpr big)
    have v9 : (1000001 : Rat) ≤ (v.toInt : Rat) := by
      have : ((1000001 : Int) : Rat) ≤ (v.toInt : Rat) := Rat.intCast_le_intCast.mpr (by omega)
      simpa using this
    have pos : 0 ≤ rv - r6 := by
      refine Decidable.byContradiction (fun c => ?_)
      have k := ee_np (x := rv - r6) (α := 50) (by grind) nrr (by decide +kernel)
      have := dif.1
      generalize ee (rv - r6) = X at *
      grind
    have le : L6 ≤ vv 0 G 24 := by
      have : (L6 : Rat) ≤ (vv 0 G 24 : Rat) := by
        rw [← hr6, ← hrv]
        exact Rat.mul_le_mul_of_nonneg_left (by grind) (Rat.le_of_lt hBr)
      exact Rat.intCast_le_intCast.mp this
    have ls := les_ok (r := 0) (a := 6) (by decide) ov q6
    have lv := ls.2.2
    rw [w6] at lv
    have E3 : lg_3 v G = mr_les 0 6 G := if_pos lb
    rw [← E3] at ls lv
    obtain ⟨s1, s2, s3⟩ := say (vv 0 G 24 - L6) (by generalize vv 0 G 24 = X at *; omega) (by generalize vv 0 G 24 = X at *; omega) ls.1 (lv le)
    obtain ⟨d1, d2⟩ := rdn (vv 0 G 24 - L6)
    rw [EV, if_pos lb, s1]
    have eD : ((vv 0 G 24 - L6 : Int) : Rat) * 1000000000 = (((1000000 : Int) ^ f : Int) : Rat) * (1000000000 * (rv - r6)) := by
      rw [Rat.intCast_sub, ← hr6, ← hrv]
      generalize (((1000000 : Int) ^ f : Int) : Rat) = B
      grind
    rw [eD] at d1 d2
    exact ⟨rv - r6, nrr, dif, d1, d2⟩
  · -- below one
    have lb : lg_b v = 1 := if_neg (fun q => big ((i64_le 1000000 v).mp q))
    have lb' : ¬ lg_b v = 0 := by rw [lb]; decide
    have v9 : (v.toInt : Rat) ≤ 999999 := by
      have : (v.toInt : Rat) ≤ ((999999 : Int) : Rat) := Rat.intCast_le_intCast.mpr (by omega)
      simpa using this
    have neg : rv - r6 ≤ 0 := by
      refine Decidable.byContradiction (fun c => ?_)
      have k := ee_nn (x := rv - r6) (by grind)
      have := dif.2
      generalize ee (rv - r6) = X at *
      grind
    have le : vv 0 G 24 ≤ L6 := by
      have : (vv 0 G 24 : Rat) ≤ (L6 : Rat) := by
        rw [← hr6, ← hrv]
        exact Rat.mul_le_mul_of_nonneg_left (by grind) (Rat.le_of_lt hBr)
      exact Rat.intCast_le_intCast.mp this
    have ls := les_ok (r := 6) (a := 0) (by decide) q6 ov
    have lv := ls.2.2
    rw [w6] at lv
    have cc0 := cp_ok (r := 0) (a := 6) (by decide) ls.1
    have E3 : lg_3 v G = mr_cp 0 6 (mr_les 6 0 G) := if_neg lb'
    rw [← E3, lv le] at cc0
    obtain ⟨s1, s2, s3⟩ := say (L6 - vv 0 G 24) (by generalize vv 0 G 24 = X at *; omega) (by generalize vv 0 G 24 = X at *; omega) cc0.1 cc0.2.2
    obtain ⟨d1, d2⟩ := rdn (L6 - vv 0 G 24)
    have sn : (-(mr_be f 0 (lg_P v f z).1) - 1).toInt = -((L6 - vv 0 G 24) * 1000000000 / 1000000 ^ f) - 1 := by
      have e : (-(mr_be f 0 (lg_P v f z).1)).toInt = -((L6 - vv 0 G 24) * 1000000000 / 1000000 ^ f) := by
        rw [Int64.toInt_neg, s1]
        exact Int.bmod_eq_of_le (by generalize (L6 - vv 0 G 24) * 1000000000 / 1000000 ^ f = Q at *; omega) (by generalize (L6 - vv 0 G 24) * 1000000000 / 1000000 ^ f = Q at *; omega)
      have e1 : (1 : Int64).toInt = 1 := rfl
      rw [tI_sub (by rw [e, e1]; generalize (L6 - vv 0 G 24) * 1000000000 / 1000000 ^ f = Q at *; omega) (by rw [e, e1]; generalize (L6 - vv 0 G 24) * 1000000000 / 1000000 ^ f = Q at *; omega), e, e1]
    rw [EV, if_neg lb', sn]
    have eD : ((L6 - vv 0 G 24 : Int) : Rat) * 1000000000 = -((((1000000 : Int) ^ f : Int) : Rat) * (1000000000 * (rv - r6))) := by
      rw [Rat.intCast_sub, ← hr6, ← hrv]
      generalize (((1000000 : Int) ^ f : Int) : Rat) = B
      grind
    rw [eD] at d1 d2
    refine ⟨rv - r6, nrr, dif, ?_, ?_⟩
    · rw [Rat.intCast_sub, Rat.intCast_neg]
      have e1 : ((1 : Int) : Rat) = 1 := rfl
      rw [e1]
      grind
    · rw [Rat.intCast_sub, Rat.intCast_neg]
      have e1 : ((1 : Int) : Rat) = 1 := rfl
      rw [e1]
      grind
theorem EQ_lg_ok : EQ_lg := by
  intro v u z ⟨l1, l2⟩
  have h0 : 0 < v.toInt := (i64_lt _ _).mp l1
  have h2 : v.toInt ≤ 1000000000000 := by
    have := (i64_le _ _).mp l2
    have e : (1000000000000 : Int64).toInt = 1000000000000 := rfl
    omega
  have ea : un v = v.toInt.toNat := un_of (by omega)
  have eb : un (1000000 : Int64) = 1000000 := by decide
  obtain ⟨o, S, w, s1, s2, s3, s4, s5⟩ := log_true (u := u) ea eb (by omega) (by omega) (by decide) (by decide)
  have e9 : ((un (1000000000 : Int64) : Nat) : Int) = 1000000000 := by decide
  have Sb : -(47 * 2 ^ 160) ≤ S ∧ S ≤ 47 * 2 ^ 160 := by
    obtain ⟨q1, q2⟩ := s3
    have U0 : (0 : Rat) < ((2 ^ 160 : Nat) : Rat) := by decide +kernel
    have c3 : ((47 * 2 ^ 160 : Int) : Rat) = 47 * ((2 ^ 160 : Nat) : Rat) := by decide +kernel
    have r1 : ((-(47 * 2 ^ 160) : Int) : Rat) ≤ (S : Rat) := by
      rw [Rat.intCast_neg, c3, ← s2]
      generalize ((2 ^ 160 : Nat) : Rat) = U at *
      have m := Rat.mul_le_mul_of_nonneg_right q1 (Rat.le_of_lt U0)
      grind
    have r2 : (S : Rat) ≤ ((47 * 2 ^ 160 : Int) : Rat) := by
      rw [c3, ← s2]
      generalize ((2 ^ 160 : Nat) : Rat) = U at *
      have m := Rat.mul_le_mul_of_nonneg_right q2 (Rat.le_of_lt U0)
      grind
    exact ⟨Rat.intCast_le_intCast.mp r1, Rat.intCast_le_intCast.mp r2⟩
  have ci := fn_okI (m := 1000000000) o (by decide) s1 (by rw [e9]; omega) (by rw [e9]; omega)
  rw [e9] at ci
  by_cases h6 : v = 1000000
  · have hvl : vl_lg v z = 0 := (if_pos l2).trans ((if_pos l1).trans (if_pos h6))
    rw [hvl]
    apply Int64.toInt_inj.mp
    have eS : S = 0 := s5 (by rw [h6]; rfl)
    rw [ci, eS]
    rfl
  · have hvl : vl_lg v z = m_val (lg_P v) (lg_V v) z := (if_pos l2).trans ((if_pos l1).trans (if_neg h6))
    rw [hvl]
    have n6 : v.toInt ≠ 1000000 := fun q => h6 (Int64.toInt_inj.mp (by rw [q]; rfl))
    apply Int64.toInt_inj.mp
    rw [ci]
    refine (m_val_i (fun f hf z => ?_) z).symm
    obtain ⟨r, nr, hr, b1, b2⟩ := lg_say (z := z) hf h0 h2 n6
    have hB := pw_pos f
    have hBr : (0 : Rat) < (((1000000 : Int) ^ f : Int) : Rat) := by
      have : ((0 : Int) : Rat) < (((1000000 : Int) ^ f : Int) : Rat) := Rat.intCast_lt_intCast.mpr hB
      simpa using this
    obtain ⟨d1, d2⟩ := rd_le (p := S * 1000000000) (q := 2 ^ 160) (by decide)
    have cU : ((2 ^ 160 : Int) : Rat) = ((2 ^ 160 : Nat) : Rat) := by decide +kernel
    rw [Rat.intCast_mul, cU] at d1 d2
    have c9 : ((1000000000 : Int) : Rat) = 1000000000 := by simp
    rw [c9] at d1 d2
    have vr : (1 : Rat) ≤ (v.toInt : Rat) := by
      have : ((1 : Int) : Rat) ≤ (v.toInt : Rat) := Rat.intCast_le_intCast.mpr (by omega)
      simpa using this
    have cv : ((v.toInt.toNat : Nat) : Rat) = (v.toInt : Rat) := by
      have e : ((v.toInt.toNat : Nat) : Int) = v.toInt := Int.toNat_of_nonneg (by omega)
      have e2 : (((v.toInt.toNat : Nat) : Int) : Rat) = (v.toInt : Rat) := by rw [e]
      exact e2
    have c6 : ((1000000 : Nat) : Rat) = 1000000 := by simp
    rw [cv, c6] at s4
    have nd : nb (w - r) 100 := by
      obtain ⟨x1, x2⟩ := s3
      obtain ⟨y1, y2⟩ := nr
      constructor <;> grind
    have near := ee_inj (nb_mono s3 (by decide +kernel)) (nb_mono nr (by decide +kernel)) nd vr s4 hr
    refine (fl_int2 (V := 1000000000 * r) (t := 1000000000 * (5 * eta)) (A := ((2 ^ 160 : Nat) : Rat)) (a := (S : Rat) * 1000000000) (B := (((1000000 : Int) ^ f : Int) : Rat)) (b := (((1000000 : Int) ^ f : Int) : Rat) * (1000000000 * r)) (by decide +kernel) hBr d1 d2 b1 b2 ?_ ?_ (fun k => lg_ni (by omega) h2 n6 (nb_mono nr (by decide +kernel)) hr)).symm
    · rw [← s2]
      have U0 : (0 : Rat) ≤ ((2 ^ 160 : Nat) : Rat) := by decide +kernel
      generalize ((2 ^ 160 : Nat) : Rat) = U at *
      have m := nb_mul (show nb U U from ⟨by grind, by grind⟩) near
      obtain ⟨x1, x2⟩ := m
      constructor <;> grind
    · obtain ⟨q0, q1, -⟩ := eta_4
      have m := Rat.mul_nonneg (Rat.le_of_lt hBr) q0
      constructor <;> grind
