/-! below 0: the product against the sum, by the series above 0 -/
theorem eT_ab {v : Rat} (h : 0 ≤ v) (n : Nat) : -eT v n ≤ eT (-v) n ∧ eT (-v) n ≤ eT v n := by
  have a := eT_nn h n
  rw [eT_neg]
  split <;> constructor <;> grind
theorem eS_ab {v : Rat} (h : 0 ≤ v) (m : Nat) : ∀ k, -(eS v (m + k) - eS v m) ≤ eS (-v) (m + k) - eS (-v) m ∧ eS (-v) (m + k) - eS (-v) m ≤ eS v (m + k) - eS v m
  | 0 => by
    rw [Nat.add_zero]
    constructor <;> grind
  | k + 1 => by
    obtain ⟨a, b⟩ := eS_ab h m k
    obtain ⟨c, d⟩ := eT_ab h (m + k + 1)
    have e1 : eS v (m + (k + 1)) = eS v (m + k) + eT v (m + k + 1) := rfl
    have e2 : eS (-v) (m + (k + 1)) = eS (-v) (m + k) + eT (-v) (m + k + 1) := rfl
    rw [e1, e2]
    constructor <;> grind
theorem pr_ab {f g F G : Rat} (hf1 : -F ≤ f) (hf2 : f ≤ F) (hg1 : -G ≤ g) (hg2 : g ≤ G) : -(F * G) ≤ f * g ∧ f * g ≤ F * G := by
  have a := Rat.mul_nonneg (show 0 ≤ F - f by grind) (show 0 ≤ G + g by grind)
  have b := Rat.mul_nonneg (show 0 ≤ F + f by grind) (show 0 ≤ G - g by grind)
  have c := Rat.mul_nonneg (show 0 ≤ F - f by grind) (show 0 ≤ G - g by grind)
  have d := Rat.mul_nonneg (show 0 ≤ F + f by grind) (show 0 ≤ G + g by grind)
  constructor <;> grind
theorem df_sm (u v : Rat) (n : Nat) : eS u n * eS v n - eS (u + v) n = sm (fun i => eT u i * (eS v n - eS v (n - i))) (n + 1) := by
  have e : eS u n * eS v n = sm (fun i => eS v n * eT u i) (n + 1) := by rw [sm_mul, eS_sm u n]; grind
  have e2 : sm (fun i => eT u i * (eS v n - eS v (n - i))) (n + 1) + sm (fun i => eT u i * eS v (n - i)) (n + 1) = sm (fun i => eS v n * eT u i) (n + 1) := by
    rw [← sm_add]
    exact sm_cong _ (fun i hi => by grind)
  rw [eS_tri, e]
  grind
theorem sm_neg (f : Nat → Rat) : ∀ n, sm (fun i => -f i) n = -sm f n
  | 0 => by show (0 : Rat) = -0; grind
  | n + 1 => by show sm _ n + -f n = -(sm f n + f n); rw [sm_neg f n]; grind
theorem df_ab {v : Rat} (h : 0 ≤ v) (n : Nat) : -(eS v n * eS v n - eS (v + v) n) ≤ eS (-v) n * eS (-v) n - eS (-v + -v) n ∧ eS (-v) n * eS (-v) n - eS (-v + -v) n ≤ eS v n * eS v n - eS (v + v) n := by
  rw [df_sm, df_sm, ← sm_neg]
  have key : ∀ i, i < n + 1 → -(eT v i * (eS v n - eS v (n - i))) ≤ eT (-v) i * (eS (-v) n - eS (-v) (n - i)) ∧ eT (-v) i * (eS (-v) n - eS (-v) (n - i)) ≤ eT v i * (eS v n - eS v (n - i)) := fun i hi => by
    obtain ⟨a, b⟩ := eT_ab h i
    obtain ⟨c, d⟩ := eS_ab h (n - i) i
    rw [show n - i + i = n by omega] at c d
    exact pr_ab a b c d
  exact ⟨sm_le _ (fun i hi => (key i hi).1), sm_le _ (fun i hi => (key i hi).2)⟩
