/-- doublings of either sign -/
theorem ee_dbl {l e : Rat} {n1 n2 : Nat} (l0 : 0 ≤ l) (l1 : l ≤ 1) (he : 8 * t4 ≤ e) (he1 : e ≤ 1/1000) (h : nb (ee l - 2) e) (h1 : n1 ≤ 40) (h2 : n2 ≤ 41) : nb (ee (((n1 : Rat) - (n2 : Rat)) * l) * 2 ^ n2 - 2 ^ n1) (64 * e * 2 ^ n1) := by
  have e0 := nb_nn h
  by_cases c : n2 ≤ n1
  · obtain ⟨k, hk⟩ : ∃ k, n1 = n2 + k := ⟨n1 - n2, by omega⟩
    subst hk
    have t := ee_two l0 l1 he he1 h k (by omega)
    have ek : ((n2 + k : Nat) : Rat) - (n2 : Rat) = (k : Rat) := by rw [Rat.natCast_add]; grind
    rw [ek, rp_add]
    have k4 : (k : Rat) ≤ 40 := by
      have : (k : Rat) ≤ ((40 : Nat) : Rat) := Rat.natCast_le_natCast.mpr (by omega)
      simpa using this
    have ke := Rat.mul_le_mul_of_nonneg_right k4 e0
    have p2 : (0 : Rat) < 2 ^ n2 := rp_pos (by decide +kernel) n2
    have pk : (0 : Rat) < 2 ^ k := rp_pos (by decide +kernel) k
    have m := nb_mul t (show nb ((2 : Rat) ^ n2) ((2 : Rat) ^ n2) from ⟨by grind, by grind⟩)
    generalize ee ((k : Rat) * l) = A at *
    generalize (2 : Rat) ^ n2 = P at *
    generalize (2 : Rat) ^ k = Q at *
    have PQ := Rat.mul_pos p2 pk
    have x : (A - Q) * P = A * P - P * Q := by grind
    rw [x] at m
    refine nb_mono m ?_
    have y := Rat.mul_le_mul_of_nonneg_right (show (k : Rat) * e ≤ 64 * e by grind) (Rat.le_of_lt PQ)
    grind
  · obtain ⟨k, hk⟩ : ∃ k, n2 = n1 + k := ⟨n2 - n1, by omega⟩
    subst hk
    have t := ee_two l0 l1 he he1 h k (by omega)
    have ek : (n1 : Rat) - ((n1 + k : Nat) : Rat) = -(k : Rat) := by rw [Rat.natCast_add]; grind
    have k0 : (0 : Rat) ≤ (k : Rat) := Rat.natCast_nonneg
    have k4 : (k : Rat) ≤ 41 := by
      have : (k : Rat) ≤ ((41 : Nat) : Rat) := Rat.natCast_le_natCast.mpr (by omega)
      simpa using this
    have ke := Rat.mul_le_mul_of_nonneg_right k4 e0
    have kl0 := Rat.mul_nonneg k0 l0
    have kl : (k : Rat) * l ≤ 41 := by
      have a := Rat.mul_le_mul_of_nonneg_right k4 l0
      grind
    have hb : nb ((k : Rat) * l) 41 := ⟨by grind, kl⟩
    have g := ee_add hb (nb_neg hb) (by decide +kernel)
    rw [show (k : Rat) * l + -((k : Rat) * l) = 0 by grind, ee_0] at g
    have Ap := ee_pos (nb_neg hb) (by decide +kernel)
    rw [ek, show -(k : Rat) * l = -((k : Rat) * l) by grind, rp_add]
    have p1 : (0 : Rat) < 2 ^ n1 := rp_pos (by decide +kernel) n1
    have pk : (0 : Rat) < 2 ^ k := rp_pos (by decide +kernel) k
    have t1 := t4_1
    have t0 := t4_0
    generalize ee ((k : Rat) * l) = G at *
    generalize ee (-((k : Rat) * l)) = A at *
    generalize (2 : Rat) ^ n1 = P at *
    generalize (2 : Rat) ^ k = Q at *
    obtain ⟨a1, a2⟩ := t
    obtain ⟨g1, g2⟩ := g
    have AQ := Rat.mul_pos Ap pk
    -- A Q is at most 5/4
    have d1 := Rat.mul_le_mul_of_nonneg_right a1 (Rat.le_of_lt Ap)
    have d2 := Rat.mul_le_mul_of_nonneg_right a2 (Rat.le_of_lt Ap)
    have ke41 : (k : Rat) * e ≤ 41/1000 := by grind
    have d3 := Rat.mul_le_mul_of_nonneg_right ke41 (Rat.le_of_lt AQ)
    have q5 : A * Q ≤ 5/4 := by grind
    have ke0 := Rat.mul_nonneg k0 e0
    have d4 := Rat.mul_le_mul_of_nonneg_right q5 ke0
    have n : nb (A * Q - 1) (64 * e) := by
      constructor <;> grind
    have m := nb_mul n (show nb P P from ⟨by grind, by grind⟩)
    have x : (A * Q - 1) * P = A * (P * Q) - P := by grind
    rw [x] at m
    exact m
/-- the three pieces together -/
theorem lg_all {a b p q T1 T2 x1 x2 x3 η : Rat} (a1 : 1 ≤ a) (b0 : 0 ≤ b) (b9 : b ≤ 1000000000000) (t10 : 0 < T1) (t20 : 0 < T2) (hp : p = a * T2) (hq : q = b * T1) (η0 : 0 ≤ η) (η1 : η ≤ 1/1000) (tη : 10000000000000000 * t4 ≤ η) (h1 : nb (ee x1 * q - p) (η * p)) (h2 : nb (ee x2 * T2 - T1) (η * T1)) (h3 : nb (ee x3 - 1) η) (y1 : nb x1 1) (y2 : nb x2 45) (y3 : nb x3 1) : nb (ee (x1 + x2 + x3) * b - a) (4 * η * a) := by
  have k1 := ee_add y1 y2 (by decide +kernel)
  have k2 := ee_add (nb_add y1 y2) y3 (by decide +kernel)
  have t0 := t4_0
  have A30 : nb (ee x3) 2 := by
    obtain ⟨u, v⟩ := h3
    exact ⟨by grind, by grind⟩
  -- A1 A2 b near a
  have m1 : nb (ee x1 * q * (ee x2 * T2) - p * T1) (p * T1 * (2 * η + η * η)) := by
    have p0 : 0 ≤ p := by rw [hp]; exact Rat.mul_nonneg (by grind) (Rat.le_of_lt t20)
    have Yb : nb (ee x2 * T2) (T1 * (1 + η)) := by
      obtain ⟨u, v⟩ := h2
      have := Rat.mul_nonneg η0 (Rat.le_of_lt t10)
      exact ⟨by grind, by grind⟩
    have s := nb_add (nb_mul h1 Yb) (nb_mul (show nb p p from ⟨by grind, by grind⟩) h2)
    have e : (ee x1 * q - p) * (ee x2 * T2) + p * (ee x2 * T2 - T1) = ee x1 * q * (ee x2 * T2) - p * T1 := by grind
    rw [e] at s
    refine nb_mono s ?_
    grind
  have m2 : nb (ee x1 * ee x2 * b - a) (a * (2 * η + η * η)) := by
    have T12 := Rat.mul_pos t10 t20
    rw [hp, hq] at m1
    obtain ⟨u, v⟩ := m1
    constructor
    · exact mul_cancel_le T12 (by grind)
    · exact mul_cancel_le T12 (by grind)
  have m3 := nb_add (nb_mul m2 A30) (nb_mul (show nb a a from ⟨by grind, by grind⟩) h3)
  -- finer: A3 is at most 1 + η
  have A31 : nb (ee x3) (1 + η) := by
    obtain ⟨u, v⟩ := h3
    exact ⟨by grind, by grind⟩
  have m4 := nb_add (nb_mul m2 A31) (nb_mul (show nb a a from ⟨by grind, by grind⟩) h3)
  have e4 : (ee x1 * ee x2 * b - a) * ee x3 + a * (ee x3 - 1) = ee x1 * ee x2 * ee x3 * b - a := by grind
  rw [e4] at m4
  -- the sums
  have d1 := nb_mul k1 A30
  have d : nb (ee x1 * ee x2 * ee x3 - ee (x1 + x2 + x3)) (3 * t4) := by
    have s := nb_add d1 k2
    have e : (ee x1 * ee x2 - ee (x1 + x2)) * ee x3 + (ee (x1 + x2) * ee x3 - ee (x1 + x2 + x3)) = ee x1 * ee x2 * ee x3 - ee (x1 + x2 + x3) := by grind
    rw [e] at s
    exact nb_mono s (by grind)
  have db := nb_neg (nb_mul d (show nb b 1000000000000 from ⟨by grind, b9⟩))
  have fin := nb_add m4 db
  have e5 : ee x1 * ee x2 * ee x3 * b - a + -((ee x1 * ee x2 * ee x3 - ee (x1 + x2 + x3)) * b) = ee (x1 + x2 + x3) * b - a := by grind
  rw [e5] at fin
  refine nb_mono fin ?_
  have ηη := Rat.mul_le_mul_of_nonneg_right η1 η0
  have aη := Rat.mul_le_mul_of_nonneg_right a1 η0
  have a0 : 0 ≤ a := by grind
  have s2 : 2 * η + η * η ≤ 2001/1000 * η := by grind
  have s3 := Rat.mul_le_mul_of_nonneg_right s2 (Rat.mul_nonneg a0 (show 0 ≤ 1 + η by grind))
  have s4 := Rat.mul_le_mul_of_nonneg_right ηη a0
  grind
