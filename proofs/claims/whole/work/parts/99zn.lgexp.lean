theorem oS_0 (a : Rat) : ∀ n, oS a 0 n = 0
  | 0 => rfl
  | n + 1 => by
    show oS a 0 n + a ^ (n + 1) * ((0 : Rat) ^ (2 * n + 3) / _) = 0
    rw [oS_0 a n, show 2 * n + 3 = 2 * n + 2 + 1 by omega, Rat.pow_succ]
    grind
theorem eS_0 : ∀ m, eS 0 m = 1
  | 0 => rfl
  | m + 1 => by
    show eS 0 m + eT 0 m * 0 / _ = 1
    rw [eS_0 m]; grind
/-- e to the double odd sum is (1 + x) / (1 - x) -/
theorem lg_exp {c e : Rat} {n N : Nat} (hc : 0 ≤ c) (he : ∀ t, 0 ≤ t → t ≤ c → 0 ≤ eT (2 * oS 1 t n) (N + 1) ∧ 0 ≤ eS (2 * oS 1 t n) N ∧ t ^ (2 * n + 2) * eS (2 * oS 1 t n) N + eT (2 * oS 1 t n) (N + 1) ≤ e) {x : Rat} (x0 : 0 ≤ x) (x1 : x ≤ c) : nb (eS (2 * oS 1 x n) (N + 1) * (2 * (1 / (1 + x)) + -1) - 1) (2 * e * x) := by
  have dL := dv_smul 2 (dv_oS hc 1 n)
  have dE := dv_eS hc dL N
  have m1 : dv c (fun _ => (-1 : Rat)) (fun _ => 0) := by
    have := dv_smul (c := c) (-1) (dv_const (c := c) 1 (by decide +kernel))
    exact dv_cg this (fun t => by grind) (fun t => by grind)
  have dQ := dv_add (dv_smul 2 dv_inv) m1
  have dH := dv_mul hc dE dQ
  have sl : ∀ t, 0 ≤ t → t ≤ c → (2 * oD 1 t n * eS (2 * oS 1 t n) N) * (2 * (1 / (1 + t)) + -1) + eS (2 * oS 1 t n) (N + 1) * (2 * -(1 / (1 + t) * (1 / (1 + t))) + 0) = -(2 * (1 / (1 + t) * (1 / (1 + t))) * (t ^ (2 * n + 2) * eS (2 * oS 1 t n) N + eT (2 * oS 1 t n) (N + 1))) := fun t t0 t1 => by
    have E : eS (2 * oS 1 t n) (N + 1) = eS (2 * oS 1 t n) N + eT (2 * oS 1 t n) (N + 1) := rfl
    have o := oD_sum 1 t n
    rw [rp_one] at o
    have i1 : (1 + t) * (1 / (1 + t)) = 1 := by
      have : 1 + t ≠ 0 := by grind
      grind
    rw [E]
    generalize 1 / (1 + t) = u at *
    generalize eS (2 * oS 1 t n) N = S at *
    generalize eT (2 * oS 1 t n) (N + 1) = T at *
    generalize oD 1 t n = D at *
    generalize t ^ (2 * n + 2) = P at *
    -- (1 - t) u u D ... : D (1 - t) (1 + t) = 1 - P
    have q1 : 2 * u + -1 = (1 - t) * u := by grind
    have q2 : D * ((1 - t) * u) = (1 - P) * (u * u) := by
      have : (1 - t) * u = (1 - t * t) * (u * u) := by grind
      grind
    have q3 : 2 * D * S * ((1 - t) * u) = 2 * S * ((1 - P) * (u * u)) := by rw [← q2]; grind
    rw [q1, q3]
    grind
  have sm9 : ∀ s, 0 ≤ s → s ≤ c → nb ((2 * oD 1 s n * eS (2 * oS 1 s n) N) * (2 * (1 / (1 + s)) + -1) + eS (2 * oS 1 s n) (N + 1) * (2 * -(1 / (1 + s) * (1 / (1 + s))) + 0)) (2 * e) := fun s s0 s1 => by
    rw [sl s s0 s1]
    obtain ⟨t1, t2, t3⟩ := he s s0 s1
    have p : 0 < 1 + s := by grind
    have i1 : (1 + s) * (1 / (1 + s)) = 1 := by
      have : 1 + s ≠ 0 := by grind
      grind
    have b : 0 ≤ 1 / (1 + s) ∧ 1 / (1 + s) ≤ 1 := ⟨mul_cancel_le p (by grind), mul_cancel_le p (by grind)⟩
    generalize 1 / (1 + s) = u at *
    have uu := Rat.mul_nonneg b.1 b.1
    have uu1 := Rat.mul_le_mul_of_nonneg_right b.2 b.1
    have pn := rp_nn s0 (2 * n + 2)
    have w0 := Rat.mul_nonneg pn t2
    have W0 : 0 ≤ s ^ (2 * n + 2) * eS (2 * oS 1 s n) N + eT (2 * oS 1 s n) (N + 1) := by grind
    generalize s ^ (2 * n + 2) * eS (2 * oS 1 s n) N + eT (2 * oS 1 s n) (N + 1) = W at *
    have k := nb_mul (show nb (u * u) 1 from ⟨by grind, by grind⟩) (show nb W e from ⟨by grind, t3⟩)
    obtain ⟨k1, k2⟩ := k
    constructor <;> grind
  have f := dv_small dH sm9 x0 x1
  have e0 : eS (2 * oS 1 0 n) (N + 1) * (2 * (1 / (1 + 0)) + -1) = 1 := by
    rw [oS_0, show (2 : Rat) * 0 = 0 by grind, eS_0]
    grind
  have f' : nb (eS (2 * oS 1 x n) (N + 1) * (2 * (1 / (1 + x)) + -1) - eS (2 * oS 1 0 n) (N + 1) * (2 * (1 / (1 + 0)) + -1)) (2 * e * x) := f
  rw [e0] at f'
  exact f'
