/-! squares of a number near U B: the error -/
theorem sq_err {U B K E q r : Rat} {c : Rat} (hU : 0 < U) (hB0 : 0 ≤ B) (hB : B ≤ K) (hE : E ≤ U) (h : nb (q - U * B) E) (h1 : U * r ≤ q * q) (h2 : q * q ≤ U * r + U * c) : nb (r - U * (B * B)) ((2 * K + 1) * E + c) := by
  have e0 := nb_nn h
  obtain ⟨a, b⟩ := h
  have hs : nb (q + U * B) ((2 * K + 1) * U) := by
    have k1 := Rat.mul_le_mul_of_nonneg_right hB (Rat.le_of_lt hU)
    have k2 := Rat.mul_nonneg (Rat.le_of_lt hU) hB0
    constructor <;> grind
  have m := nb_mul (show nb (q - U * B) E from ⟨a, b⟩) hs
  have e : (q - U * B) * (q + U * B) = q * q - U * (U * (B * B)) := by grind
  rw [e] at m
  obtain ⟨m1, m2⟩ := m
  have k3 := Rat.mul_nonneg (show (0 : Rat) ≤ c by
    exact Decidable.byContradiction (fun z => by
      have := Rat.mul_pos hU (show 0 < -c by grind)
      grind)) (Rat.le_of_lt hU)
  constructor
  · exact mul_cancel_le hU (by grind)
  · exact mul_cancel_le hU (by grind)
/-- five squares from q 0 near U B: at most c units too small each -/
theorem sq5 {U B c E : Rat} {q : Nat → Rat} (hU : 0 < U) (hB0 : 0 ≤ B) (hB : B ≤ 15/8) (h : nb (q 0 - U * B) E) (hc : 0 ≤ c) (hs : ∀ j, j < 5 → U * q (j + 1) ≤ q j * q j ∧ q j * q j ≤ U * q (j + 1) + U * c) (hE : 2000000000 * (E + c) ≤ U) :
    nb (q 5 - U * B ^ 32) (30000000000 * (E + c)) := by
  have e0 := nb_nn h
  have b2 : B * B ≤ 4 := by
    have x1 := Rat.mul_le_mul_of_nonneg_right hB hB0
    grind
  have n2 := Rat.mul_nonneg hB0 hB0
  have b4 : (B * B) * (B * B) ≤ 13 := by
    have x1 := Rat.mul_le_mul_of_nonneg_right hB hB0
    have x2 := Rat.mul_le_mul_of_nonneg_right (show B * B ≤ 225 / 64 by grind) n2
    grind
  have n4 := Rat.mul_nonneg n2 n2
  have b8 : (B * B) * (B * B) * ((B * B) * (B * B)) ≤ 169 := by
    have x2 := Rat.mul_le_mul_of_nonneg_right b4 n4
    grind
  have n8 := Rat.mul_nonneg n4 n4
  have b16 : (B * B) * (B * B) * ((B * B) * (B * B)) * ((B * B) * (B * B) * ((B * B) * (B * B))) ≤ 28561 := by
    have x2 := Rat.mul_le_mul_of_nonneg_right b8 n8
    grind
  have n16 := Rat.mul_nonneg n8 n8
  have s1 := sq_err (K := 15/8) hU hB0 hB (by grind) h (hs 0 (by decide)).1 (hs 0 (by decide)).2
  have s2 := sq_err (K := 4) hU n2 b2 (by grind) s1 (hs 1 (by decide)).1 (hs 1 (by decide)).2
  have s3 := sq_err (K := 13) hU n4 b4 (by grind) s2 (hs 2 (by decide)).1 (hs 2 (by decide)).2
  have s4 := sq_err (K := 169) hU n8 b8 (by grind) s3 (hs 3 (by decide)).1 (hs 3 (by decide)).2
  have s5 := sq_err (K := 28561) hU n16 b16 (by grind) s4 (hs 4 (by decide)).1 (hs 4 (by decide)).2
  have E32 : B ^ 32 = (B * B) * (B * B) * ((B * B) * (B * B)) * ((B * B) * (B * B) * ((B * B) * (B * B))) * ((B * B) * (B * B) * ((B * B) * (B * B)) * ((B * B) * (B * B) * ((B * B) * (B * B)))) := by
    have p2 : ∀ (x : Rat) (n : Nat), x ^ (n + n) = x ^ n * x ^ n := fun x n => by
      induction n with
      | zero => show x ^ 0 = x ^ 0 * x ^ 0; rw [Rat.pow_zero]; grind
      | succ n ih =>
        rw [show n + 1 + (n + 1) = n + n + 1 + 1 by omega, Rat.pow_succ, Rat.pow_succ, ih, Rat.pow_succ]
        grind
    have p1 : B ^ 1 = B := by rw [show (1 : Nat) = 0 + 1 from rfl, Rat.pow_succ, Rat.pow_zero]; grind
    rw [show (32 : Nat) = 16 + 16 from rfl, p2, show (16 : Nat) = 8 + 8 from rfl, p2, show (8 : Nat) = 4 + 4 from rfl, p2, show (4 : Nat) = 2 + 2 from rfl, p2, show (2 : Nat) = 1 + 1 from rfl, p2, p1]
  rw [E32]
  refine nb_mono s5 ?_
  grind
