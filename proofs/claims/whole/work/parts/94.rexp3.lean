/-! the class's terms against the true ones -/
theorem mul_cancel_le {m x y : Rat} (hm : 0 < m) (h : m * x ≤ m * y) : x ≤ y := Decidable.byContradiction (fun q => by
  have := Rat.mul_pos hm (show 0 < x - y by grind)
  grind)
theorem ce_true {a D : Nat} {z : Rat} (hD : 0 < D) (h : 8 * a ≤ 5 * D) (hz : (D : Rat) * z = (a : Rat)) (hz0 : 0 ≤ z) : ∀ n, (ceT a D n : Rat) ≤ ((2 ^ 160 : Nat) : Rat) * eT z n ∧ ((2 ^ 160 : Nat) : Rat) * eT z n ≤ (ceT a D n : Rat) + 3
  | 0 => by
    have e : ((ceT a D 0 : Nat) : Rat) = ((2 ^ 160 : Nat) : Rat) := rfl
    have e0 : eT z 0 = 1 := rfl
    rw [e, e0]
    generalize ((2 ^ 160 : Nat) : Rat) = A at *
    constructor <;> grind
  | n + 1 => by
    obtain ⟨i1, i2⟩ := ce_true hD h hz hz0 n
    have et := eT_s z n
    have hDr : (0 : Rat) < (D : Rat) := by
      have : ((0 : Nat) : Rat) < (D : Rat) := Rat.natCast_lt_natCast.mpr hD
      simpa using this
    have hn := rn_pos n
    have E : ceT a D (n + 1) = ceT a D n * a / (D * (n + 1)) := rfl
    have d1 : D * (n + 1) * ceT a D (n + 1) ≤ ceT a D n * a := by rw [E, Nat.mul_comm]; exact Nat.div_mul_le_self _ _
    have d2 : ceT a D n * a ≤ D * (n + 1) * ceT a D (n + 1) + D * (n + 1) := by
      have := Nat.lt_div_mul_add (a := ceT a D n * a) (b := D * (n + 1)) (Nat.mul_pos hD (by omega))
      rw [← E, Nat.mul_comm (ceT a D (n + 1))] at this
      omega
    have r1 : ((D * (n + 1) * ceT a D (n + 1) : Nat) : Rat) ≤ ((ceT a D n * a : Nat) : Rat) := Rat.natCast_le_natCast.mpr d1
    have r2 : ((ceT a D n * a : Nat) : Rat) ≤ ((D * (n + 1) * ceT a D (n + 1) + D * (n + 1) : Nat) : Rat) := Rat.natCast_le_natCast.mpr d2
    have r3 : ((8 * a : Nat) : Rat) ≤ ((5 * D : Nat) : Rat) := Rat.natCast_le_natCast.mpr h
    rw [Rat.natCast_mul, Rat.natCast_mul, Rat.natCast_mul] at r1
    rw [Rat.natCast_mul, Rat.natCast_add, Rat.natCast_mul, Rat.natCast_mul] at r2
    rw [Rat.natCast_mul, Rat.natCast_mul] at r3
    have ha : (0 : Rat) ≤ (a : Rat) := Rat.natCast_nonneg
    have h1n : (1 : Rat) ≤ ((n + 1 : Nat) : Rat) := by
      have e : ((n + 1 : Nat) : Rat) = (n : Rat) + 1 := by simp
      have : (0 : Rat) ≤ (n : Rat) := Rat.natCast_nonneg
      grind
    have hm := Rat.mul_pos hDr hn
    have key : (D : Rat) * ((n + 1 : Nat) : Rat) * (((2 ^ 160 : Nat) : Rat) * eT z (n + 1)) = (a : Rat) * (((2 ^ 160 : Nat) : Rat) * eT z n) := by
      rw [← hz]
      generalize ((2 ^ 160 : Nat) : Rat) = A at *
      grind
    have u1 := Rat.mul_le_mul_of_nonneg_right i1 ha
    have u2 := Rat.mul_le_mul_of_nonneg_right i2 ha
    have u3 := Rat.mul_le_mul_of_nonneg_right h1n (Rat.le_of_lt hDr)
    generalize ((2 ^ 160 : Nat) : Rat) * eT z (n + 1) = X at *
    generalize ((2 ^ 160 : Nat) : Rat) * eT z n = Y at *
    generalize (ceT a D (n + 1) : Rat) = T' at *
    generalize (ceT a D n : Rat) = T at *
    generalize ((n + 1 : Nat) : Rat) = k at *
    have c8 : ((8 : Nat) : Rat) = 8 := by simp
    have c5 : ((5 : Nat) : Rat) = 5 := by simp
    rw [c8, c5] at r3
    constructor
    · exact mul_cancel_le hm (by rw [key]; grind)
    · exact mul_cancel_le hm (by rw [key]; grind)
