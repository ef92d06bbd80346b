/-- which of two is greater: by the exponential -/
theorem dw_core {v y a b η δ : Rat} (hv : nb v 47) (hy : nb y 6) (b1 : 0 ≤ b) (h : nb (ee v * b - a) (η * a)) (e9 : ee y ≤ 1000) (hδ : η * a + 3000 * (b * t4) < δ) : (b * ee y + δ ≤ a → y < v) ∧ (a + δ ≤ b * ee y → ¬ y < v) := by
  have t0 := t4_0
  have t1 := t4_1
  have hx : nb (v - y) 53 := by
    have k := nb_add hv (nb_neg hy)
    have e : v + -y = v - y := by grind
    rw [e] at k
    exact nb_mono k (by decide +kernel)
  have k := ee_add hx hy (by decide +kernel)
  rw [show v - y + y = v by grind] at k
  have yp := ee_pos hy (by decide +kernel)
  have bt := Rat.mul_nonneg b1 t0
  have by0 := Rat.mul_nonneg b1 (Rat.le_of_lt yp)
  obtain ⟨k1, k2⟩ := k
  obtain ⟨h1, h2⟩ := h
  constructor
  · intro q
    refine Decidable.byContradiction (fun c => ?_)
    have x0 : v - y ≤ 0 := by grind
    have xb := ee_np x0 hx (by decide +kernel)
    have m1 := Rat.mul_le_mul_of_nonneg_right xb (Rat.le_of_lt yp)
    have up : ee v ≤ (1 + 2 * t4) * ee y + t4 := by grind
    have m2 := Rat.mul_le_mul_of_nonneg_right up b1
    have m3 := Rat.mul_le_mul_of_nonneg_right e9 bt
    generalize ee v = A at *
    generalize ee y = B at *
    generalize t4 = τ at *
    grind
  · intro q c
    have xn := ee_nn (show 0 ≤ v - y by grind)
    have m1 := Rat.mul_le_mul_of_nonneg_right (show 1 ≤ ee (v - y) by grind) (Rat.le_of_lt yp)
    have lo : ee y - t4 ≤ ee v := by grind
    have m2 := Rat.mul_le_mul_of_nonneg_right lo b1
    generalize ee v = A at *
    generalize ee y = B at *
    generalize t4 = τ at *
    grind
