/-! twice the exponent: how near the square comes -/
theorem sq_near {v : Rat} (h : 0 ≤ v) (h1 : v + v ≤ 1) (n : Nat) : 0 ≤ eS v (n + 1) * eS v (n + 1) - eS (v + v) (n + 1) ∧ eS v (n + 1) * eS v (n + 1) - eS (v + v) (n + 1) ≤ eT (v + v) (n + 1) := by
  have a := eS_mul_ge h h (n + 1)
  have b := eS_mul_le h h (n + 1)
  have hv : 0 ≤ v + v := by grind
  have c := eS_tail hv h1 n (n + 1)
  have d := eT_nn hv (n + 1 + (n + 1))
  constructor <;> grind
/-- both signs: e = 1 or -1 -/
theorem sq_near2 {v : Rat} (h : 0 ≤ v) (h1 : v + v ≤ 1) (n : Nat) : -eT (v + v) (n + 1) ≤ eS (-v) (n + 1) * eS (-v) (n + 1) - eS (-v + -v) (n + 1) ∧ eS (-v) (n + 1) * eS (-v) (n + 1) - eS (-v + -v) (n + 1) ≤ eT (v + v) (n + 1) := by
  obtain ⟨a, b⟩ := df_ab h (n + 1)
  obtain ⟨c, d⟩ := sq_near h h1 n
  constructor <;> grind
