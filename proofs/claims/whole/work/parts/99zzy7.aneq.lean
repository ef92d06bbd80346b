/-! EQ_an -/
theorem an_all {N : Nat} (h1 : 990 ≤ N) (h2 : N < 3141592654) : ∀ (n : Nat) (x y : Int), x.natAbs + y.natAbs ≤ n → ¬ (x = 0 ∧ y = 0) → x * x + y * y ≤ 2000000000000 → ¬ nb ((x : Rat) * ss ((N : Rat) / 1000000000) - (y : Rat) * cc ((N : Rat) / 1000000000)) etA
  | 0, x, y, hn, h0, _ => absurd (show x = 0 ∧ y = 0 by omega) h0
  | n + 1, x, y, hn, h0, hr => by
    by_cases c : x % 2 = 0 ∧ y % 2 = 0
    · intro hk
      obtain ⟨x', hx⟩ : ∃ k, x = 2 * k := ⟨x / 2, by omega⟩
      obtain ⟨y', hy⟩ : ∃ k, y = 2 * k := ⟨y / 2, by omega⟩
      have hr' : x' * x' + y' * y' ≤ 2000000000000 := by
        have e1 : x * x = 4 * (x' * x') := by rw [hx]; grind
        have e2 : y * y = 4 * (y' * y') := by rw [hy]; grind
        have p1 : 0 ≤ x' * x' := by
          rcases Int.le_total 0 x' with q | q
          · exact Int.mul_nonneg q q
          · have := Int.mul_nonneg (show 0 ≤ -x' by omega) (show 0 ≤ -x' by omega)
            rw [Int.neg_mul_neg] at this
            exact this
        have p2 : 0 ≤ y' * y' := by
          rcases Int.le_total 0 y' with q | q
          · exact Int.mul_nonneg q q
          · have := Int.mul_nonneg (show 0 ≤ -y' by omega) (show 0 ≤ -y' by omega)
            rw [Int.neg_mul_neg] at this
            exact this
        rw [e1, e2] at hr
        generalize x' * x' = A at *
        generalize y' * y' = C at *
        omega
      refine an_all h1 h2 n x' y' (by omega) (by omega) hr' ?_
      rw [hx, hy, Rat.intCast_mul, Rat.intCast_mul] at hk
      have e : ((2 : Int) : Rat) = 2 := by simp
      rw [e] at hk
      have t0 : (0 : Rat) ≤ etA := by decide +kernel
      obtain ⟨a1, a2⟩ := hk
      constructor <;> grind
    · exact an_ni N x y h1 h2 hr c
theorem cI_5 (d : Rat) : cI d 5 = d - d * d * d / 6 + d * d * d * (d * d) / 120 ∧ eT d 5 = d * d * d * (d * d) / 120 := by
  have c0 : ci d 0 = 0 := rfl
  have r0 : cr d 0 = 1 := rfl
  have c1 := ci_s d 0
  have r1 := cr_s d 0
  have c2 := ci_s d 1
  have r2 := cr_s d 1
  have c3 := ci_s d 2
  have r3 := cr_s d 2
  have c4 := ci_s d 3
  have r4 := cr_s d 3
  have c5 := ci_s d 4
  have t0 : eT d 0 = 1 := rfl
  have t1 := eT_s d 0
  have t2 := eT_s d 1
  have t3 := eT_s d 2
  have t4' := eT_s d 3
  have t5 := eT_s d 4
  have n1 : ((0 + 1 : Nat) : Rat) = 1 := rfl
  have n2 : ((1 + 1 : Nat) : Rat) = 2 := by simp
  have n3 : ((2 + 1 : Nat) : Rat) = 3 := by simp
  have n4 : ((3 + 1 : Nat) : Rat) = 4 := by simp
  have n5 : ((4 + 1 : Nat) : Rat) = 5 := by simp
  rw [n1] at c1 r1 t1
  rw [n2] at c2 r2 t2
  rw [n3] at c3 r3 t3
  rw [n4] at c4 r4 t4'
  rw [n5] at c5 t5
  have E : cI d 5 = 0 + ci d 0 + ci d 1 + ci d 2 + ci d 3 + ci d 4 + ci d 5 := rfl
  rw [E]
  have x1 : ci d 1 = d := by grind
  have y1 : cr d 1 = 0 := by grind
  have x2 : ci d 2 = 0 := by grind
  have y2 : cr d 2 = -(d * d / 2) := by grind
  have x3 : ci d 3 = -(d * d * d / 6) := by grind
  have y3 : cr d 3 = 0 := by grind
  have x4 : ci d 4 = 0 := by grind
  have y4 : cr d 4 = d * d * d * d / 24 := by grind
  have x5 : ci d 5 = d * d * d * (d * d) / 120 := by grind
  have z1 : eT d 1 = d := by grind
  have z2 : eT d 2 = d * d / 2 := by grind
  have z3 : eT d 3 = d * d * d / 6 := by grind
  have z4 : eT d 4 = d * d * d * d / 24 := by grind
  constructor
  · rw [c0, x1, x2, x3, x4, x5]; grind
  · grind
theorem ss_lo {d : Rat} (d0 : 0 ≤ d) (d1 : d ≤ 201/100) : 3/10 * d ≤ ss d := by
  have k := (cs_cut (d := d) (n := 5) d0 (by decide) (by
    have : ((5 + 1 : Nat) : Rat) = 6 := by simp
    rw [this]; grind)).2
  obtain ⟨e1, e2⟩ := cI_5 d
  rw [e1, e2] at k
  have dd : d * d ≤ 41/10 := by
    have a := Rat.mul_le_mul_of_nonneg_right d1 d0
    grind
  have m := Rat.mul_le_mul_of_nonneg_right dd d0
  have := k.1
  grind
theorem ss_sm {d e : Rat} (h : nb d e) (he : e ≤ 1) : nb (ss d) (2 * e) := by
  obtain ⟨h1, h2⟩ := h
  by_cases c : 0 ≤ d
  · have k := (cs_small c (by grind)).2
    exact nb_mono k (by grind)
  · have k := (cs_small (d := -d) (by grind) (by grind)).2
    rw [ss_neg] at k
    have n := nb_neg k
    rw [show - -ss d = ss d by grind] at n
    exact nb_mono n (by grind)
/-- two flat angles of one tangent -/
theorem arc_dif {m l ψ φ : Rat} (m1 : 1 ≤ m) (l0 : 0 ≤ l) (lm : l ≤ m) (nψ : nb ψ 1) (p0 : 0 ≤ φ) (p1 : φ ≤ 101/100) (h1 : nb (m * ss ψ - l * cc ψ) (10 * u16 * m)) (h2 : nb (m * ss φ - l * cc φ) (1000000 * (3 * e90))) : nb (ψ - φ) (35 * u16) := by
  obtain ⟨u0, u1, -, u3, u4⟩ := u16_ok
  have t0 := t4_0
  have nφ : nb φ 2 := ⟨by grind, by grind⟩
  have nd : nb (ψ - φ) (201/100) := by
    obtain ⟨a1, a2⟩ := nψ
    constructor <;> grind
  obtain ⟨k1, k2⟩ := cs_add (a := φ) (b := ψ - φ) (α := 2) (β := 3) nφ (nb_mono nd (by decide +kernel)) (by decide +kernel)
  rw [show φ + (ψ - φ) = ψ by grind] at k1 k2
  have one := cs_one nφ (by decide +kernel)
  obtain ⟨bc, bs⟩ := cs_bd (a := ψ - φ) (α := 3) (nb_mono nd (by decide +kernel)) (by decide +kernel)
  -- the point along the angle
  have cpos : 0 ≤ cc φ := by
    have k2 := (cs_cut (d := φ) (n := 5) p0 (by decide) (by
      have : ((5 + 1 : Nat) : Rat) = 6 := by simp
      rw [this]; grind)).1
    obtain ⟨-, e2⟩ := cI_5 φ
    have r0 : cr φ 0 = 1 := rfl
    have c0 : ci φ 0 = 0 := rfl
    have c1 := ci_s φ 0
    have r1 := cr_s φ 0
    have c2 := ci_s φ 1
    have r2 := cr_s φ 1
    have c3 := ci_s φ 2
    have r3 := cr_s φ 2
    have c4 := ci_s φ 3
    have r4 := cr_s φ 3
    have r5 := cr_s φ 4
    have n1 : ((0 + 1 : Nat) : Rat) = 1 := rfl
    have n2 : ((1 + 1 : Nat) : Rat) = 2 := by simp
    have n3 : ((2 + 1 : Nat) : Rat) = 3 := by simp
    have n4 : ((3 + 1 : Nat) : Rat) = 4 := by simp
    have n5 : ((4 + 1 : Nat) : Rat) = 5 := by simp
    rw [n1] at c1 r1
    rw [n2] at c2 r2
    rw [n3] at c3 r3
    rw [n4] at c4 r4
    rw [n5] at r5
    have E : cR φ 5 = 0 + cr φ 0 + cr φ 1 + cr φ 2 + cr φ 3 + cr φ 4 + cr φ 5 := rfl
    have x1 : ci φ 1 = φ := by grind
    have y1 : cr φ 1 = 0 := by grind
    have x2 : ci φ 2 = 0 := by grind
    have y2 : cr φ 2 = -(φ * φ / 2) := by grind
    have x3 : ci φ 3 = -(φ * φ * φ / 6) := by grind
    have y3 : cr φ 3 = 0 := by grind
    have x4 : ci φ 4 = 0 := by grind
    have y4 : cr φ 4 = φ * φ * φ * φ / 24 := by grind
    have y5 : cr φ 5 = 0 := by grind
    rw [E, r0, y1, y2, y3, y4, y5, e2] at k2
    have pp : φ * φ ≤ 103/100 := by
      have a := Rat.mul_le_mul_of_nonneg_right p1 p0
      grind
    have p20 := Rat.mul_nonneg p0 p0
    have p4 := Rat.mul_nonneg p20 p20
    have p5 := Rat.mul_le_mul_of_nonneg_left p1 p4
    have p4b := Rat.mul_le_mul_of_nonneg_left pp p20
    have := k2.1
    grind
  have spos : 0 ≤ ss φ := by
    have := ss_lo p0 (show φ ≤ 201/100 by grind)
    grind
  have dt0 : 0 ≤ m * cc φ + l * ss φ := by
    have a := Rat.mul_nonneg (show 0 ≤ m by grind) cpos
    have b := Rat.mul_nonneg l0 spos
    grind
  generalize hc : cc φ = c at *
  generalize hs : ss φ = s at *
  generalize hC : cc ψ = C at *
  generalize hS : ss ψ = S at *
  generalize hcd : cc (ψ - φ) = cd at *
  generalize hsd : ss (ψ - φ) = sd at *
  generalize hc2 : m * s - l * c = x2 at *
  generalize hdt : m * c + l * s = dt at *
  have um := Rat.mul_le_mul_of_nonneg_left m1 u0
  have x2b : nb x2 (1/100 * u16) := nb_mono h2 (by grind)
  have sqs : dt * dt + x2 * x2 = (m * m + l * l) * (c * c + s * s) := by rw [← hdt, ← hc2]; grind
  have mm : 1 ≤ m * m := by
    have a := Rat.mul_le_mul_of_nonneg_right m1 (show 0 ≤ m by grind)
    grind
  have ll := sq_nn l
  have dt1 : 49/50 * m ≤ dt := by
    refine Decidable.byContradiction (fun q => ?_)
    have q1 := Rat.mul_le_mul_of_nonneg_right (show dt ≤ 49/50 * m by grind) dt0
    have q2 := Rat.mul_le_mul_of_nonneg_left (show dt ≤ 49/50 * m by grind) (show 0 ≤ 49/50 * m by grind)
    have q3 := nb_sq x2b
    have q4 : 1/100 * u16 * (1/100 * u16) ≤ 1/1000 := by
      have := Rat.mul_le_mul_of_nonneg_left u1 u0
      grind
    have tt : t4 ≤ 1/1000000 := t4_1
    have q5 : 999/1000 ≤ c * c + s * s := by
      have := one.1
      grind
    have q6 := Rat.mul_le_mul_of_nonneg_left q5 (show 0 ≤ m * m + l * l by grind)
    grind
  -- the sine of the difference
  have key : nb (sd * dt) (51/5 * u16 * m) := by
    have a1 := nb_mul (show nb m m from ⟨by grind, by grind⟩) k2
    have a2 := nb_mul (show nb l m from ⟨by grind, lm⟩) k1
    have a3 := nb_mul bc x2b
    have tm := Rat.mul_le_mul_of_nonneg_left u4 (show 0 ≤ m by grind)
    have tm0 := Rat.mul_nonneg (show 0 ≤ m by grind) t0
    have e : m * (c * sd + s * cd - S) - l * (c * cd - s * sd - C) = sd * dt + cd * x2 - (m * S - l * C) := by rw [← hdt, ← hc2]; grind
    obtain ⟨x1, x3⟩ := a1
    obtain ⟨x4, x5⟩ := a2
    obtain ⟨x6, x7⟩ := a3
    obtain ⟨x8, x9⟩ := h1
    clear sqs dt1 hdt hc2 hc hs hC hS hcd hsd one k1 k2
    constructor <;> grind
  have sdb : nb sd (21/2 * u16) := by
    have dp : 0 < dt := by grind
    obtain ⟨y1, y2⟩ := key
    have z := Rat.mul_le_mul_of_nonneg_left dt1 (show 0 ≤ 21/2 * u16 by grind)
    have um0 := Rat.mul_nonneg u0 (show 0 ≤ m by grind)
    constructor
    · exact mul_cancel_le dp (by grind)
    · exact mul_cancel_le dp (by grind)
  obtain ⟨d1, d2⟩ := nd
  obtain ⟨s1, s2⟩ := sdb
  by_cases cs : 0 ≤ ψ - φ
  · have lo := ss_lo cs d2
    rw [hsd] at lo
    constructor <;> grind
  · have lo := ss_lo (d := -(ψ - φ)) (by grind) (by grind)
    rw [ss_neg, hsd] at lo
    constructor <;> grind
