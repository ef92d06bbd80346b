/-! products of exponential sums over Rat -/
theorem eS_sm (z : Rat) : ∀ n, eS z n = sm (eT z) (n + 1)
  | 0 => by show (1 : Rat) = 0 + 1; grind
  | n + 1 => by show eS z n + eT z (n + 1) = sm (eT z) (n + 1) + eT z (n + 1); rw [eS_sm z n]
/-- by columns -/
theorem eS_tri (u v : Rat) : ∀ n, eS (u + v) n = sm (fun i => eT u i * eS v (n - i)) (n + 1)
  | 0 => by show (1 : Rat) = 0 + 1 * 1; grind
  | n + 1 => by
    show eS (u + v) n + eT (u + v) (n + 1) = sm (fun i => eT u i * eS v (n + 1 - i)) (n + 1) + eT u (n + 1) * eS v (n + 1 - (n + 1))
    have e1 : sm (fun i => eT u i * eS v (n + 1 - i)) (n + 1) = sm (fun i => eT u i * eS v (n - i) + eT u i * eT v (n + 1 - i)) (n + 1) := sm_cong _ (fun i hi => by
      rw [show n + 1 - i = n - i + 1 by omega]
      show eT u i * (eS v (n - i) + eT v (n - i + 1)) = _
      grind)
    have e2 : cv u v (n + 1) = sm (fun i => eT u i * eT v (n + 1 - i)) (n + 1) + eT u (n + 1) * eT v (n + 1 - (n + 1)) := rfl
    rw [e1, sm_add, ← eS_tri u v n, ← cv_eT, e2, Nat.sub_self]
    have e3 : eS v 0 = eT v 0 := rfl
    rw [e3]; grind
theorem eT_nn {z : Rat} (h : 0 ≤ z) : ∀ n, 0 ≤ eT z n
  | 0 => by show (0 : Rat) ≤ 1; grind
  | n + 1 => by
    have a := eT_nn h n
    have b := rn_pos n
    have c := eT_s z n
    have d := Rat.mul_nonneg h a
    rw [← c] at d
    generalize ((n + 1 : Nat) : Rat) = m at *
    exact Decidable.byContradiction (fun q => by
      have q2 : eT z (n + 1) < 0 := by grind
      have := Rat.mul_pos b (show 0 < -eT z (n + 1) by grind)
      grind)
theorem sm_nn {f : Nat → Rat} : ∀ n, (∀ i, i < n → 0 ≤ f i) → 0 ≤ sm f n
  | 0, _ => by show (0 : Rat) ≤ 0; grind
  | n + 1, h => by
    have a := sm_nn n (fun i hi => h i (by omega))
    have b := h n (by omega)
    show 0 ≤ sm f n + f n
    grind
theorem sm_le {f g : Nat → Rat} : ∀ n, (∀ i, i < n → f i ≤ g i) → sm f n ≤ sm g n
  | 0, _ => by show (0 : Rat) ≤ 0; grind
  | n + 1, h => by
    have a := sm_le n (fun i hi => h i (by omega))
    have b := h n (by omega)
    show sm f n + f n ≤ sm g n + g n
    grind
theorem eS_mono {z : Rat} (h : 0 ≤ z) : ∀ k n, eS z n ≤ eS z (n + k)
  | 0, n => by show eS z n ≤ eS z n; grind
  | k + 1, n => by
    have a := eS_mono h k n
    have b := eT_nn h (n + k + 1)
    show eS z n ≤ eS z (n + k) + eT z (n + k + 1)
    grind
/-- u and v not below 0: the sum of u + v is at most the product -/
theorem eS_mul_ge {u v : Rat} (hu : 0 ≤ u) (hv : 0 ≤ v) (n : Nat) : eS (u + v) n ≤ eS u n * eS v n := by
  rw [eS_tri, eS_sm u n]
  have e : sm (eT u) (n + 1) * eS v n = sm (fun i => eS v n * eT u i) (n + 1) := by rw [sm_mul]; grind
  rw [e]
  refine sm_le _ (fun i hi => ?_)
  have h1 := eS_mono hv i (n - i)
  rw [show n - i + i = n by omega] at h1
  have h2 := Rat.mul_le_mul_of_nonneg_right h1 (eT_nn hu i)
  grind
theorem eS_nn {z : Rat} (h : 0 ≤ z) (n : Nat) : 0 ≤ eS z n := by
  have := eS_mono h n 0
  rw [Nat.zero_add] at this
  have e : eS z 0 = 1 := rfl
  rw [e] at this
  grind
/-- and at least the product's, with twice as many terms -/
theorem eS_mul_le {u v : Rat} (hu : 0 ≤ u) (hv : 0 ≤ v) (n : Nat) : eS u n * eS v n ≤ eS (u + v) (n + n) := by
  rw [eS_tri, eS_sm u n]
  have e : sm (eT u) (n + 1) * eS v n = sm (fun i => eS v n * eT u i) (n + 1) := by rw [sm_mul]; grind
  rw [e]
  have h1 : sm (fun i => eS v n * eT u i) (n + 1) ≤ sm (fun i => eT u i * eS v (n + n - i)) (n + 1) := sm_le _ (fun i hi => by
    have h1 := eS_mono hv (n - i) n
    rw [show n + (n - i) = n + n - i by omega] at h1
    have h2 := Rat.mul_le_mul_of_nonneg_right h1 (eT_nn hu i)
    grind)
  have h2 : ∀ k, sm (fun i => eT u i * eS v (n + n - i)) (n + 1) ≤ sm (fun i => eT u i * eS v (n + n - i)) (n + 1 + k) := fun k => by
    induction k with
    | zero => exact Rat.le_refl
    | succ k ih =>
      have := Rat.mul_nonneg (eT_nn hu (n + 1 + k)) (eS_nn hv (n + n - (n + 1 + k)))
      show _ ≤ sm (fun i => eT u i * eS v (n + n - i)) (n + 1 + k) + eT u (n + 1 + k) * eS v (n + n - (n + 1 + k))
      grind
  have h3 := h2 n
  rw [show n + 1 + n = n + n + 1 by omega] at h3
  grind
/-- a term at most half the one before it -/
theorem eT_half {z : Rat} (h : 0 ≤ z) (h1 : z ≤ 1) (n : Nat) : 2 * eT z (n + 2) ≤ eT z (n + 1) := by
  have a := eT_nn h (n + 1)
  have c := eT_s z (n + 1)
  have t := eT_nn h (n + 2)
  have e : ((n + 1 + 1 : Nat) : Rat) = (n : Rat) + 2 := by
    have : ((n + 2 : Nat) : Rat) = (n : Rat) + 2 := by simp
    exact this
  have hn : (0 : Rat) ≤ (n : Rat) := Rat.natCast_nonneg
  rw [e] at c
  have d := Rat.mul_le_mul_of_nonneg_right h1 a
  have f := Rat.mul_nonneg hn t
  show 2 * eT z (n + 2) ≤ _
  have c2 : ((n : Rat) + 2) * eT z (n + 2) = z * eT z (n + 1) := c
  grind
theorem eS_tail {z : Rat} (h : 0 ≤ z) (h1 : z ≤ 1) (n : Nat) : ∀ k, eS z (n + 1 + k) + eT z (n + 1 + k) ≤ eS z (n + 1) + eT z (n + 1)
  | 0 => Rat.le_refl
  | k + 1 => by
    have a := eS_tail h h1 n k
    have b := eT_half h h1 (n + k)
    rw [show n + k + 2 = n + 1 + k + 1 by omega, show n + k + 1 = n + 1 + k by omega] at b
    show eS z (n + 1 + k) + eT z (n + 1 + k + 1) + eT z (n + 1 + k + 1) ≤ _
    grind
