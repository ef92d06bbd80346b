/-! sums of odd powers: a = 1 or -1 -/
def oE : Nat → Rat
  | 0 => 0
  | n + 1 => oE n + (8 / ((2 * n + 3 : Nat) : Rat) + 1)
theorem pm_bd {a : Rat} (h : a = 1 ∨ a = -1) : ∀ n : Nat, nb (a ^ n) 1
  | 0 => by rw [Rat.pow_zero]; exact ⟨by grind, by grind⟩
  | n + 1 => by
    have ih := pm_bd h n
    rw [Rat.pow_succ]
    obtain ⟨i1, i2⟩ := ih
    generalize a ^ n = x at i1 i2 ⊢
    rcases h with h | h <;> rw [h] <;> constructor <;> grind
theorem os_q {k Q T w U : Rat} (kp : 0 < k) (q1 : k * Q ≤ T) (q2 : T ≤ k * Q + k) (m1 : T ≤ U * w) (m2 : U * w ≤ T + 8) : nb (Q - U * (w / k)) (8 / k + 1) := by
  have kne : k ≠ 0 := by grind
  have d1 : k * (w / k) = w := by grind
  have d2 : k * (8 / k) = 8 := by grind
  generalize w / k = x at *
  generalize 8 / k = y at *
  have e : k * (Q - U * x) = k * Q - U * w := by rw [← d1]; grind
  constructor
  · refine mul_cancel_le kp ?_
    rw [e]
    grind
  · refine mul_cancel_le kp ?_
    rw [e]
    grind
theorem os_seq {U z f a : Rat} {T S Q : Nat → Rat} {m : Nat} (ha : a = 1 ∨ a = -1) (hU : 0 < U) (z0 : 0 ≤ z) (z1 : z ≤ 1/3) (f0 : 0 ≤ f) (f1 : f ≤ U * (z * z)) (f2 : U * (z * z) ≤ f + 5) (t0 : T 0 = U * z) (s0 : S 0 = U * z)
    (hT : ∀ i, i < m → 0 ≤ T i ∧ U * T (i + 1) ≤ T i * f ∧ T i * f ≤ U * T (i + 1) + U * 5)
    (hQ : ∀ i, i < m → ((2 * i + 3 : Nat) : Rat) * Q (i + 1) ≤ T (i + 1) ∧ T (i + 1) ≤ ((2 * i + 3 : Nat) : Rat) * Q (i + 1) + ((2 * i + 3 : Nat) : Rat))
    (hS : ∀ i, i < m → S (i + 1) = S i + a ^ (i + 1) * Q (i + 1)) :
    ∀ i, i ≤ m → T i ≤ U * z ^ (2 * i + 1) ∧ U * z ^ (2 * i + 1) ≤ T i + 8 ∧ nb (S i - U * oS a z i) (oE i)
  | 0, _ => by
    have e1 : z ^ (2 * 0 + 1) = z := by rw [show 2 * 0 + 1 = 0 + 1 from rfl, Rat.pow_succ, Rat.pow_zero]; grind
    rw [e1, t0, s0]
    show U * z ≤ U * z ∧ U * z ≤ U * z + 8 ∧ nb (U * z - U * z) 0
    refine ⟨Rat.le_refl, by grind, ⟨by grind, by grind⟩⟩
  | i + 1, hi => by
    obtain ⟨i1, i2, i3⟩ := os_seq ha hU z0 z1 f0 f1 f2 t0 s0 hT hQ hS i (by omega)
    obtain ⟨p0, p1, p2⟩ := hT i (by omega)
    obtain ⟨q1, q2⟩ := hQ i (by omega)
    have hs := hS i (by omega)
    have e1 : z ^ (2 * (i + 1) + 1) = z ^ (2 * i + 1) * (z * z) := by
      rw [show 2 * (i + 1) + 1 = 2 * i + 1 + 1 + 1 by omega, Rat.pow_succ, Rat.pow_succ]; grind
    have zn := rp_nn z0 (2 * i + 1)
    have zz0 := Rat.mul_nonneg z0 z0
    have zz1 : z * z ≤ 1/9 := by
      have := Rat.mul_le_mul_of_nonneg_right z1 z0
      grind
    have zl : z ^ (2 * i + 1) ≤ 1/3 := by
      rw [Rat.pow_succ]
      have a1 := rp_le1 z0 (by grind) (2 * i)
      have a2 := Rat.mul_le_mul_of_nonneg_right a1 z0
      grind
    have main : T (i + 1) ≤ U * z ^ (2 * (i + 1) + 1) ∧ U * z ^ (2 * (i + 1) + 1) ≤ T (i + 1) + 8 := by
      rw [e1]
      generalize z ^ (2 * i + 1) = w at *
      generalize z * z = v at *
      have x1 := Rat.mul_le_mul_of_nonneg_right i1 f0
      have x2 := Rat.mul_le_mul_of_nonneg_right f1 (Rat.mul_nonneg (Rat.le_of_lt hU) zn)
      have y1 := Rat.mul_le_mul_of_nonneg_right i2 (Rat.mul_nonneg (Rat.le_of_lt hU) zz0)
      have y2 := Rat.mul_le_mul_of_nonneg_right f2 p0
      have y3 := Rat.mul_le_mul_of_nonneg_right zz1 (Rat.le_of_lt hU)
      have y4 := Rat.mul_le_mul_of_nonneg_right zl (Rat.le_of_lt hU)
      constructor
      · exact mul_cancel_le hU (by grind)
      · exact mul_cancel_le hU (by grind)
    refine ⟨main.1, main.2, ?_⟩
    have kp := rn_pos (2 * i + 2)
    have kp' : (0 : Rat) < ((2 * i + 3 : Nat) : Rat) := kp
    have E : oS a z (i + 1) = oS a z i + a ^ (i + 1) * (z ^ (2 * i + 3) / ((2 * i + 3 : Nat) : Rat)) := rfl
    have F : oE (i + 1) = oE i + (8 / ((2 * i + 3 : Nat) : Rat) + 1) := rfl
    rw [hs, E, F]
    rw [show 2 * (i + 1) + 1 = 2 * i + 3 by omega] at main
    have pb := pm_bd ha (i + 1)
    generalize ((2 * i + 3 : Nat) : Rat) = k at *
    generalize z ^ (2 * i + 3) = w at *
    generalize a ^ (i + 1) = g at *
    have n1 := os_q kp' q1 q2 main.1 main.2
    have n2 := nb_add i3 (nb_mul pb n1)
    have e3 : S i - U * oS a z i + g * (Q (i + 1) - U * (w / k)) = S i + g * Q (i + 1) - U * (oS a z i + g * (w / k)) := by grind
    rw [e3] at n2
    exact nb_mono n2 (by grind)
/-- the tail of the odd sum -/
theorem os_tail {a z : Rat} (ha : a = 1 ∨ a = -1) (z0 : 0 ≤ z) (z1 : z ≤ 1/3) (k : Nat) : ∀ j, nb (oS a z (k + j) - oS a z k) (z ^ (2 * k + 1) * (1/8) - z ^ (2 * (k + j) + 1) * (1/8))
  | 0 => by rw [Nat.add_zero]; constructor <;> grind
  | j + 1 => by
    have ih := os_tail ha z0 z1 k j
    have E : oS a z (k + (j + 1)) = oS a z (k + j) + a ^ (k + j + 1) * (z ^ (2 * (k + j) + 3) / ((2 * (k + j) + 3 : Nat) : Rat)) := rfl
    have pb := pm_bd ha (k + j + 1)
    have kp := rn_pos (2 * (k + j) + 2)
    have kp' : (0 : Rat) < ((2 * (k + j) + 3 : Nat) : Rat) := kp
    have k1 : (1 : Rat) ≤ ((2 * (k + j) + 3 : Nat) : Rat) := by
      have : ((1 : Nat) : Rat) ≤ ((2 * (k + j) + 3 : Nat) : Rat) := Rat.natCast_le_natCast.mpr (by omega)
      simpa using this
    have e1 : z ^ (2 * (k + j) + 3) = z ^ (2 * (k + j) + 1) * (z * z) := by
      rw [show 2 * (k + j) + 3 = 2 * (k + j) + 1 + 1 + 1 by omega, Rat.pow_succ, Rat.pow_succ]; grind
    have zn := rp_nn z0 (2 * (k + j) + 1)
    have zn3 := rp_nn z0 (2 * (k + j) + 3)
    have zz1 : z * z ≤ 1/9 := by
      have := Rat.mul_le_mul_of_nonneg_right z1 z0
      grind
    have m := Rat.mul_le_mul_of_nonneg_right zz1 zn
    rw [E, show 2 * (k + (j + 1)) + 1 = 2 * (k + j) + 3 by omega]
    have q : nb (z ^ (2 * (k + j) + 3) / ((2 * (k + j) + 3 : Nat) : Rat)) (z ^ (2 * (k + j) + 3)) := by
      generalize ((2 * (k + j) + 3 : Nat) : Rat) = c at *
      generalize z ^ (2 * (k + j) + 3) = w at *
      have cne : c ≠ 0 := by grind
      have d1 : c * (w / c) = w := by grind
      have x := Rat.mul_le_mul_of_nonneg_right k1 zn3
      have w0 : 0 ≤ w / c := mul_cancel_le kp' (by grind)
      exact ⟨by grind, mul_cancel_le kp' (by grind)⟩
    have s := nb_add ih (nb_mul pb q)
    have e2 : oS a z (k + j) - oS a z k + a ^ (k + j + 1) * (z ^ (2 * (k + j) + 3) / ((2 * (k + j) + 3 : Nat) : Rat)) = oS a z (k + j) + a ^ (k + j + 1) * (z ^ (2 * (k + j) + 3) / ((2 * (k + j) + 3 : Nat) : Rat)) - oS a z k := by grind
    rw [e2] at s
    refine nb_mono s ?_
    rw [e1]
    generalize z ^ (2 * (k + j) + 1) = w at *
    generalize z * z = v at *
    grind
