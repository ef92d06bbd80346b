/-! a chain of squares: powers of a number near 1, to 200 bits -/
def sqc (A q : Nat) : Nat → Nat
  | 0 => q
  | j + 1 => sqc A q j * sqc A q j / A
theorem rp_two (x : Rat) (n : Nat) : x ^ (n + n) = x ^ n * x ^ n := by
  induction n with
  | zero => show x ^ 0 = x ^ 0 * x ^ 0; rw [Rat.pow_zero]; grind
  | succ n ih =>
    rw [show n + 1 + (n + 1) = n + n + 1 + 1 by omega, Rat.pow_succ, Rat.pow_succ, ih, Rat.pow_succ]
    grind
theorem rp_add (x : Rat) (m : Nat) : ∀ n : Nat, x ^ (m + n) = x ^ m * x ^ n
  | 0 => by rw [Nat.add_zero, Rat.pow_zero]; grind
  | n + 1 => by rw [← Nat.add_assoc, Rat.pow_succ, rp_add x m n, Rat.pow_succ]; grind
theorem rp_mul (x : Rat) (m : Nat) : ∀ n : Nat, x ^ (m * n) = (x ^ m) ^ n
  | 0 => by rw [Nat.mul_zero, Rat.pow_zero, Rat.pow_zero]
  | n + 1 => by rw [Nat.mul_succ, rp_add, rp_mul x m n, Rat.pow_succ]
theorem sqc_err {A q m : Nat} {β : Rat} (hA : 0 < A) (hβ : 0 ≤ β) (h0 : nb ((q : Rat) - (A : Rat) * β) 1) (hm : ∀ j, j < m → 20 * (sqc A q j + 5 ^ j) ≤ 21 * A ∧ 5 ^ j ≤ A) : ∀ j, j ≤ m → nb ((sqc A q j : Rat) - (A : Rat) * β ^ (2 ^ j)) ((5 ^ j : Nat) : Rat)
  | 0, _ => by
    have e : β ^ (2 ^ 0) = β := by rw [show 2 ^ 0 = 0 + 1 from rfl, Rat.pow_succ, Rat.pow_zero]; grind
    rw [e]
    have e1 : ((5 ^ 0 : Nat) : Rat) = 1 := rfl
    rw [e1]; exact h0
  | j + 1, hj => by
    have ih := sqc_err hA hβ h0 hm j (by omega)
    obtain ⟨k, k5⟩ := hm j (by omega)
    have k5r : ((5 ^ j : Nat) : Rat) ≤ (A : Rat) := Rat.natCast_le_natCast.mpr k5
    have hAr : (0 : Rat) < (A : Rat) := by
      have : ((0 : Nat) : Rat) < (A : Rat) := Rat.natCast_lt_natCast.mpr hA
      simpa using this
    have kr : 20 * ((sqc A q j : Rat) + ((5 ^ j : Nat) : Rat)) ≤ 21 * (A : Rat) := by
      have : ((20 * (sqc A q j + 5 ^ j) : Nat) : Rat) ≤ ((21 * A : Nat) : Rat) := Rat.natCast_le_natCast.mpr k
      rw [Rat.natCast_mul, Rat.natCast_add, Rat.natCast_mul] at this
      simpa using this
    have b0 := rp_nn hβ (2 ^ j)
    have hs0 : (0 : Rat) ≤ (sqc A q j : Rat) := Rat.natCast_nonneg
    have b1 : β ^ (2 ^ j) ≤ 21/20 := mul_cancel_le hAr (by have := ih.1; grind)
    have p1 : (1 : Rat) ≤ ((5 ^ j : Nat) : Rat) := by
      have : ((1 : Nat) : Rat) ≤ ((5 ^ j : Nat) : Rat) := Rat.natCast_le_natCast.mpr (Nat.pow_pos (by decide))
      simpa using this
    obtain ⟨d1, d2⟩ := nd_le (sqc A q j * sqc A q j) A hA
    rw [Rat.natCast_mul] at d1 d2
    have s := sq_err (U := (A : Rat)) (B := β ^ (2 ^ j)) (K := 21/20) (E := ((5 ^ j : Nat) : Rat)) (q := (sqc A q j : Rat)) (r := ((sqc A q j * sqc A q j / A : Nat) : Rat)) (c := 1) hAr b0 b1 k5r ih d1 (by grind)
    have E : sqc A q (j + 1) = sqc A q j * sqc A q j / A := rfl
    have e2 : β ^ (2 ^ (j + 1)) = β ^ (2 ^ j) * β ^ (2 ^ j) := by rw [show 2 ^ (j + 1) = 2 ^ j + 2 ^ j by rw [Nat.pow_succ]; omega, rp_two]
    rw [E, e2]
    refine nb_mono s ?_
    have e3 : ((5 ^ (j + 1) : Nat) : Rat) = 5 * ((5 ^ j : Nat) : Rat) := by
      rw [Nat.pow_succ, Rat.natCast_mul]
      have : ((5 : Nat) : Rat) = 5 := by simp
      rw [this]; grind
    rw [e3]
    grind
/-- fewer bits -/
theorem cut_err {A D q c e : Nat} {x : Rat} (hD : 0 < D) (h : nb ((q : Rat) - ((A * D : Nat) : Rat) * x) (e : Rat)) (h1 : c * D ≤ q + (D - e)) (h2 : q ≤ c * D + (D - e)) (he : e ≤ D) : nb ((c : Rat) - x * (A : Rat)) 1 := by
  obtain ⟨a, b⟩ := h
  have r1 : ((c * D + e : Nat) : Rat) ≤ ((q + D : Nat) : Rat) := Rat.natCast_le_natCast.mpr (by omega)
  have r2 : ((q + e : Nat) : Rat) ≤ ((c * D + D : Nat) : Rat) := Rat.natCast_le_natCast.mpr (by omega)
  rw [Rat.natCast_add, Rat.natCast_mul, Rat.natCast_add] at r1
  rw [Rat.natCast_add, Rat.natCast_add, Rat.natCast_mul] at r2
  rw [Rat.natCast_mul] at a b
  have hDr : (0 : Rat) < (D : Rat) := by
    have : ((0 : Nat) : Rat) < (D : Rat) := Rat.natCast_lt_natCast.mpr hD
    simpa using this
  constructor
  · exact mul_cancel_le hDr (by grind)
  · exact mul_cancel_le hDr (by grind)
/-! the base: e to the millionth over 32 -/
def dl : Rat := 1 / 32000000
def bt (b : Bool) : Rat := eS (sg b dl) 800
theorem dl_0 : 0 ≤ dl := by decide +kernel
theorem bt_near (b : Bool) : nb (bt b - eS (sg b dl) 12) (eT dl 12) := by
  have t := eS_tail dl_0 (by decide +kernel) 11 788
  have p := eT_nn dl_0 (11 + 1 + 788)
  have m := eS_mono dl_0 788 12
  rw [show 11 + 1 + 788 = 800 from rfl] at t p
  rw [show 12 + 788 = 800 from rfl] at m
  rw [show 11 + 1 = 12 from rfl] at t
  have h : nb (eS dl 800 - eS dl 12) (eT dl 12) := by constructor <;> grind
  cases b with
  | false => exact h
  | true =>
    have a := eS_ab dl_0 12 788
    rw [show 12 + 788 = 800 from rfl] at a
    exact nb_mono (show nb (eS (-dl) 800 - eS (-dl) 12) (eS dl 800 - eS dl 12) from ⟨a.1, a.2⟩) h.2
