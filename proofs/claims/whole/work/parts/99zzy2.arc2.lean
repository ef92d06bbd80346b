/-! two series of the angle -/
def e90 : Rat := 1 / ((2 ^ 190 : Nat) : Rat)
theorem e90_num : 2 * (18 * (4 * (1/3 : Rat) ^ 802 + 4 * eT 2 800)) ≤ e90 * e90 ∧ 2 * (18 * (4 * (1 / ((2 ^ 480 : Nat) : Rat)) + 4 * eT 2 800)) ≤ e90 * e90 ∧ 0 ≤ e90 := by decide +kernel
theorem arc_o {r : Rat} (r0 : 0 ≤ r) (r1 : r ≤ 1/3) : nb (ss (oS (-1) r 400) - r * cc (oS (-1) r 400)) e90 := by
  have m := arc_main (c := 1/3) (e := (1/3 : Rat) ^ 802) (f := fun t => oS (-1) t 400) (G := fun t => oD (-1) t 400) (b := fun t => (-1) ^ 401 * t ^ 802) (by decide +kernel) (by decide +kernel) (dv_oS (by decide +kernel) (-1) 400) (oS_0 (-1) 400) (fun t t0 t1 => by
    have o := oD_sum (-1) t 400
    have i := w2_i t
    have e : 1 - -1 * (t * t) = 1 + t * t := by grind
    rw [e] at o
    show oD (-1) t 400 = w2 t * (1 - (-1) ^ 401 * t ^ 802)
    have o' : (1 + t * t) * oD (-1) t 400 = 1 - (-1) ^ 401 * t ^ 802 := o
    rw [← o']
    generalize oD (-1) t 400 = D at *
    generalize w2 t = w at *
    have : D = D * ((1 + t * t) * w) := by rw [i]; grind
    grind) (fun t t0 t1 => by
    have p := pm_bd (a := -1) (Or.inr rfl) 401
    have q0 := rp_nn t0 802
    have q1 := rp_le t0 t1 802
    have k := nb_mul p (show nb (t ^ 802) ((1/3) ^ 802) from ⟨by grind, q1⟩)
    rw [show (1 : Rat) * (1/3) ^ 802 = (1/3) ^ 802 by grind] at k
    exact k) (by decide +kernel) (fun t t0 t1 => by
    have k := oS_bd (a := -1) (Or.inr rfl) t0 t1 400
    exact nb_mono k (by grind)) r0 r1
  obtain ⟨n1, -, n3⟩ := e90_num
  exact ab_le n3 (by grind)
/-! Euler's -/
def eu (t : Rat) : Nat → Rat
  | 0 => t * w2 t
  | n + 1 => eu t n * (t * t * w2 t) * (((2 * n + 2 : Nat) : Rat) / ((2 * n + 3 : Nat) : Rat))
def bu (t : Rat) : Nat → Rat
  | 0 => 1
  | n + 1 => bu t n * (t * t * w2 t) * (((2 * n + 2 : Nat) : Rat) / ((2 * n + 1 : Nat) : Rat))
def euS (t : Rat) : Nat → Rat
  | 0 => 0
  | n + 1 => euS t n + eu t n
theorem n_rel (n : Nat) : ((2 * n + 2 : Nat) : Rat) = ((2 * n + 1 : Nat) : Rat) + 1 ∧ ((2 * n + 3 : Nat) : Rat) = ((2 * n + 1 : Nat) : Rat) + 2 ∧ ((2 * n + 4 : Nat) : Rat) = ((2 * n + 1 : Nat) : Rat) + 3 ∧ (1 : Rat) ≤ ((2 * n + 1 : Nat) : Rat) := by
  have e1 : ((2 * n + 2 : Nat) : Rat) = ((2 * n + 1 : Nat) : Rat) + 1 := by
    have : ((2 * n + 1 + 1 : Nat) : Rat) = ((2 * n + 1 : Nat) : Rat) + ((1 : Nat) : Rat) := Rat.natCast_add _ _
    exact this
  have e2 : ((2 * n + 3 : Nat) : Rat) = ((2 * n + 1 : Nat) : Rat) + 2 := by
    have : ((2 * n + 1 + 2 : Nat) : Rat) = ((2 * n + 1 : Nat) : Rat) + ((2 : Nat) : Rat) := Rat.natCast_add _ _
    have e : ((2 : Nat) : Rat) = 2 := by simp
    rw [e] at this
    exact this
  have e3 : ((2 * n + 4 : Nat) : Rat) = ((2 * n + 1 : Nat) : Rat) + 3 := by
    have : ((2 * n + 1 + 3 : Nat) : Rat) = ((2 * n + 1 : Nat) : Rat) + ((3 : Nat) : Rat) := Rat.natCast_add _ _
    have e : ((3 : Nat) : Rat) = 3 := by simp
    rw [e] at this
    exact this
  have e4 : ((1 : Nat) : Rat) ≤ ((2 * n + 1 : Nat) : Rat) := Rat.natCast_le_natCast.mpr (by omega)
  exact ⟨e1, e2, e3, by simpa using e4⟩
theorem eu_bu (t : Rat) : ∀ n, ((2 * n + 1 : Nat) : Rat) * eu t n = t * w2 t * bu t n
  | 0 => by
    show ((2 * 0 + 1 : Nat) : Rat) * (t * w2 t) = t * w2 t * 1
    have : ((2 * 0 + 1 : Nat) : Rat) = 1 := rfl
    rw [this]; grind
  | n + 1 => by
    have ih := eu_bu t n
    obtain ⟨e1, e2, e3, e4⟩ := n_rel n
    show ((2 * (n + 1) + 1 : Nat) : Rat) * (eu t n * (t * t * w2 t) * (((2 * n + 2 : Nat) : Rat) / ((2 * n + 3 : Nat) : Rat))) = t * w2 t * (bu t n * (t * t * w2 t) * (((2 * n + 2 : Nat) : Rat) / ((2 * n + 1 : Nat) : Rat)))
    rw [show 2 * (n + 1) + 1 = 2 * n + 3 by omega]
    have p3 : ((2 * n + 3 : Nat) : Rat) ≠ 0 := by grind
    have p1 : ((2 * n + 1 : Nat) : Rat) ≠ 0 := by grind
    have d3 : ((2 * n + 3 : Nat) : Rat) * (((2 * n + 2 : Nat) : Rat) / ((2 * n + 3 : Nat) : Rat)) = ((2 * n + 2 : Nat) : Rat) := by grind
    have d1 : ((2 * n + 1 : Nat) : Rat) * (((2 * n + 2 : Nat) : Rat) / ((2 * n + 1 : Nat) : Rat)) = ((2 * n + 2 : Nat) : Rat) := by grind
    generalize ((2 * n + 2 : Nat) : Rat) / ((2 * n + 3 : Nat) : Rat) = k3 at *
    generalize ((2 * n + 2 : Nat) : Rat) / ((2 * n + 1 : Nat) : Rat) = k1 at *
    generalize eu t n = E at *
    generalize bu t n = β at *
    generalize w2 t = w at *
    generalize ((2 * n + 1 : Nat) : Rat) = m at *
    have : t * w * (β * (t * t * w) * k1) = (t * w * β) * (t * t * w) * k1 := by grind
    rw [this, ← ih]
    have l : ((2 * n + 3 : Nat) : Rat) * (E * (t * t * w) * k3) = E * (t * t * w) * (((2 * n + 3 : Nat) : Rat) * k3) := by grind
    have r : m * E * (t * t * w) * k1 = E * (t * t * w) * (m * k1) := by grind
    rw [l, r, d3, d1]
theorem eu_alg {t w E β m k1 k3 k4 : Rat} (hw : (1 + t * t) * w = 1) (hE : m * E = t * w * β) (h1 : m * k1 = m + 1) (h3 : (m + 2) * k3 = m + 1) (h4 : (m + 2) * k4 = m + 3) (hm : 1 ≤ m) :
    k3 * ((w * (β - β * (t * t * w) * k1)) * (t * t * w) + E * ((1 * t + t * 1) * w + t * t * -(2 * t * (w * w)))) = w * (β * (t * t * w) * k1 - β * (t * t * w) * k1 * (t * t * w) * k4) := by
  have u' : (1 * t + t * 1) * w + t * t * -(2 * t * (w * w)) = 2 * t * (w * w) := by
    have : w = w * ((1 + t * t) * w) := by rw [hw]; grind
    have k : 2 * t * w = 2 * t * (w * ((1 + t * t) * w)) := by rw [← this]
    grind
  rw [u']
  have w1 : w = 1 - t * t * w := by grind
  have mp : 0 < m := by grind
  have m2 : 0 < m + 2 := by grind
  have x := Rat.mul_pos mp m2
  refine mul_inj x ?_
  -- m (m + 2) times both
  have l : m * (m + 2) * (k3 * ((w * (β - β * (t * t * w) * k1)) * (t * t * w) + E * (2 * t * (w * w)))) = ((m + 2) * k3) * (w * (m * β - β * (t * t * w) * (m * k1)) * (t * t * w) + (m * E) * (2 * t * (w * w))) := by grind
  have r : m * (m + 2) * (w * (β * (t * t * w) * k1 - β * (t * t * w) * k1 * (t * t * w) * k4)) = w * (β * (t * t * w) * (m * k1) * (m + 2) - β * (t * t * w) * (m * k1) * (t * t * w) * ((m + 2) * k4)) := by grind
  rw [l, r, h3, h1, h4, hE]
  generalize hu : t * t * w = u at *
  have q : t * w * β * (2 * t * (w * w)) = 2 * β * u * (w * w) := by rw [← hu]; grind
  rw [q, w1]
  grind
theorem dv_eu {c : Rat} (hc : 0 ≤ c) (h1 : c ≤ 1) : ∀ n, dv c (fun t => eu t n) (fun t => w2 t * (bu t n - bu t (n + 1)))
  | 0 => by
    have m := dv_mul hc (dv_id hc) (dv_w2 hc h1)
    refine dv_cg m (fun t => rfl) (fun t => ?_)
    have i := w2_i t
    show 1 * w2 t + t * -(2 * t * (w2 t * w2 t)) = w2 t * (1 - 1 * (t * t * w2 t) * (((2 * 0 + 2 : Nat) : Rat) / ((2 * 0 + 1 : Nat) : Rat)))
    have e : ((2 * 0 + 2 : Nat) : Rat) / ((2 * 0 + 1 : Nat) : Rat) = 2 := by decide +kernel
    rw [e]
    generalize w2 t = w at *
    grind
  | n + 1 => by
    have ih := dv_eu hc h1 n
    have du := dv_mul hc (dv_mul hc (dv_id hc) (dv_id hc)) (dv_w2 hc h1)
    have m := dv_smul (((2 * n + 2 : Nat) : Rat) / ((2 * n + 3 : Nat) : Rat)) (dv_mul hc ih du)
    refine dv_cg m (fun t => ?_) (fun t => ?_)
    · show ((2 * n + 2 : Nat) : Rat) / ((2 * n + 3 : Nat) : Rat) * (eu t n * (t * t * w2 t)) = eu t n * (t * t * w2 t) * (((2 * n + 2 : Nat) : Rat) / ((2 * n + 3 : Nat) : Rat))
      grind
    · obtain ⟨e1, e2, e3, e4⟩ := n_rel n
      show ((2 * n + 2 : Nat) : Rat) / ((2 * n + 3 : Nat) : Rat) * ((w2 t * (bu t n - bu t n * (t * t * w2 t) * (((2 * n + 2 : Nat) : Rat) / ((2 * n + 1 : Nat) : Rat)))) * (t * t * w2 t) + eu t n * ((1 * t + t * 1) * w2 t + t * t * -(2 * t * (w2 t * w2 t)))) = w2 t * (bu t n * (t * t * w2 t) * (((2 * n + 2 : Nat) : Rat) / ((2 * n + 1 : Nat) : Rat)) - bu t n * (t * t * w2 t) * (((2 * n + 2 : Nat) : Rat) / ((2 * n + 1 : Nat) : Rat)) * (t * t * w2 t) * (((2 * (n + 1) + 2 : Nat) : Rat) / ((2 * (n + 1) + 1 : Nat) : Rat)))
      rw [show 2 * (n + 1) + 2 = 2 * n + 4 by omega, show 2 * (n + 1) + 1 = 2 * n + 3 by omega]
      have hE := eu_bu t n
      have hw := w2_i t
      rw [e1, e2, e3]
      refine eu_alg (m := ((2 * n + 1 : Nat) : Rat)) hw hE ?_ ?_ ?_ e4
      · have : ((2 * n + 1 : Nat) : Rat) ≠ 0 := by grind
        grind
      · have : ((2 * n + 1 : Nat) : Rat) + 2 ≠ 0 := by grind
        grind
      · have : ((2 * n + 1 : Nat) : Rat) + 2 ≠ 0 := by grind
        grind
theorem dv_euS {c : Rat} (hc : 0 ≤ c) (h1 : c ≤ 1) : ∀ n, dv c (fun t => euS t n) (fun t => w2 t * (1 - bu t n))
  | 0 => by
    refine dv_cg (dv_const (c := c) 0 (by decide +kernel)) (fun t => rfl) (fun t => ?_)
    show 0 = w2 t * (1 - 1)
    grind
  | n + 1 => by
    refine dv_cg (dv_add (dv_euS hc h1 n) (dv_eu hc h1 n)) (fun t => rfl) (fun t => ?_)
    generalize bu t (n + 1) = X
    grind
theorem u_half {t : Rat} (t0 : 0 ≤ t) (t1 : t ≤ 1) : 0 ≤ t * t * w2 t ∧ 2 * (t * t * w2 t) ≤ 1 ∧ 0 ≤ t * w2 t ∧ 2 * (t * w2 t) ≤ 1 := by
  obtain ⟨w0, w1⟩ := w2_b t
  have i := w2_i t
  have q := sq_nn (t - 1)
  have tt := Rat.mul_nonneg t0 t0
  have tt1 := Rat.mul_le_mul_of_nonneg_right t1 t0
  generalize w2 t = w at *
  have a := Rat.mul_nonneg tt w0
  have b := Rat.mul_nonneg t0 w0
  have c := Rat.mul_le_mul_of_nonneg_right (show t * t ≤ 1 by grind) w0
  have d := Rat.mul_le_mul_of_nonneg_right (show 2 * t ≤ 1 + t * t by grind) w0
  exact ⟨a, by grind, b, by grind⟩
theorem bu_bd {t : Rat} (t0 : 0 ≤ t) (t1 : t ≤ 1) : ∀ n, 0 ≤ bu t n ∧ 2 ^ n * bu t n ≤ ((n + 1 : Nat) : Rat)
  | 0 => by
    show (0 : Rat) ≤ 1 ∧ 2 ^ 0 * (1 : Rat) ≤ ((0 + 1 : Nat) : Rat)
    exact ⟨by decide, by decide +kernel⟩
  | n + 1 => by
    obtain ⟨i1, i2⟩ := bu_bd t0 t1 n
    obtain ⟨u0, u1, -, -⟩ := u_half t0 t1
    obtain ⟨e1, e2, e3, e4⟩ := n_rel n
    have p1 : ((2 * n + 1 : Nat) : Rat) ≠ 0 := by grind
    have d1 : ((2 * n + 1 : Nat) : Rat) * (((2 * n + 2 : Nat) : Rat) / ((2 * n + 1 : Nat) : Rat)) = ((2 * n + 2 : Nat) : Rat) := by grind
    have en : ((2 * n + 1 : Nat) : Rat) = 2 * (n : Rat) + 1 := by
      rw [Rat.natCast_add, Rat.natCast_mul]; simp
    have en1 : ((n + 1 : Nat) : Rat) = (n : Rat) + 1 := by simp
    have en2 : ((n + 1 + 1 : Nat) : Rat) = (n : Rat) + 2 := by
      rw [Rat.natCast_add, en1]
      have : ((1 : Nat) : Rat) = 1 := rfl
      rw [this]; grind
    have n0 : (0 : Rat) ≤ (n : Rat) := Rat.natCast_nonneg
    have E : bu t (n + 1) = bu t n * (t * t * w2 t) * (((2 * n + 2 : Nat) : Rat) / ((2 * n + 1 : Nat) : Rat)) := rfl
    rw [E, en2, Rat.pow_succ]
    rw [e1] at d1 ⊢
    rw [en1] at i2
    generalize (((2 * n + 1 : Nat) : Rat) + 1) / ((2 * n + 1 : Nat) : Rat) = k at *
    rw [en] at d1 e4
    generalize t * t * w2 t = u at *
    generalize bu t n = β at *
    have P0 : (0 : Rat) < 2 ^ n := rp_pos (by decide +kernel) n
    generalize (2 : Rat) ^ n = P at *
    have k0 : 0 ≤ k := mul_cancel_le (show 0 < 2 * (n : Rat) + 1 by grind) (by grind)
    have a := Rat.mul_nonneg i1 u0
    have b := Rat.mul_nonneg a k0
    refine ⟨b, ?_⟩
    have c := Rat.mul_le_mul_of_nonneg_right u1 i1
    have c2 := Rat.mul_le_mul_of_nonneg_left c (Rat.le_of_lt P0)
    have c3 : P * 2 * (β * u) ≤ (n : Rat) + 1 := by grind
    have c4 := Rat.mul_le_mul_of_nonneg_right c3 k0
    refine mul_cancel_le (show 0 < 2 * (n : Rat) + 1 by grind) ?_
    have nn := Rat.mul_nonneg n0 n0
    have c5 := Rat.mul_le_mul_of_nonneg_left c4 (show 0 ≤ 2 * (n : Rat) + 1 by grind)
    have e5 : (2 * (n : Rat) + 1) * (((n : Rat) + 1) * k) = ((n : Rat) + 1) * ((2 * (n : Rat) + 1) * k) := by grind
    rw [e5, d1] at c5
    have e6 : (2 * (n : Rat) + 1) * (P * 2 * (β * u * k)) = (2 * (n : Rat) + 1) * (P * 2 * (β * u) * k) := by grind
    rw [e6]
    refine Rat.le_trans c5 ?_
    generalize (n : Rat) = N at *
    have e7 : (N + 1) * (2 * N + 1 + 1) = 2 * (N * N) + 4 * N + 2 := by grind
    have e8 : (2 * N + 1) * (N + 2) = 2 * (N * N) + 5 * N + 2 := by grind
    rw [e7, e8]
    grind
theorem eu_nn {t : Rat} (t0 : 0 ≤ t) (t1 : t ≤ 1) : ∀ n, 0 ≤ eu t n ∧ 2 * eu t (n + 1) ≤ eu t n := fun n => by
  obtain ⟨u0, u1, y0, y1⟩ := u_half t0 t1
  have step : ∀ n, 0 ≤ eu t n → 0 ≤ eu t (n + 1) ∧ 2 * eu t (n + 1) ≤ eu t n := fun n h => by
    obtain ⟨e1, e2, e3, e4⟩ := n_rel n
    have p3 : ((2 * n + 3 : Nat) : Rat) ≠ 0 := by grind
    have d3 : ((2 * n + 3 : Nat) : Rat) * (((2 * n + 2 : Nat) : Rat) / ((2 * n + 3 : Nat) : Rat)) = ((2 * n + 2 : Nat) : Rat) := by grind
    have E : eu t (n + 1) = eu t n * (t * t * w2 t) * (((2 * n + 2 : Nat) : Rat) / ((2 * n + 3 : Nat) : Rat)) := rfl
    rw [E]
    have q3 : (0 : Rat) < ((2 * n + 3 : Nat) : Rat) := by grind
    generalize ((2 * n + 2 : Nat) : Rat) / ((2 * n + 3 : Nat) : Rat) = k at *
    have k0 : 0 ≤ k := mul_cancel_le q3 (by grind)
    have k1 : k ≤ 1 := mul_cancel_le q3 (by grind)
    generalize t * t * w2 t = u at *
    generalize eu t n = E at *
    have a := Rat.mul_nonneg h u0
    have b := Rat.mul_nonneg a k0
    have c := Rat.mul_le_mul_of_nonneg_right u1 h
    have d := Rat.mul_le_mul_of_nonneg_left k1 a
    exact ⟨b, by grind⟩
  have nn : ∀ n, 0 ≤ eu t n := fun n => by
    induction n with
    | zero => exact y0
    | succ n ih => exact (step n ih).1
  exact ⟨nn n, (step n (nn n)).2⟩
theorem euS_bd {t : Rat} (t0 : 0 ≤ t) (t1 : t ≤ 1) : ∀ n, 0 ≤ euS t n ∧ euS t n + 2 * eu t n ≤ 1
  | 0 => by
    obtain ⟨u0, u1, y0, y1⟩ := u_half t0 t1
    show (0 : Rat) ≤ 0 ∧ 0 + 2 * (t * w2 t) ≤ 1
    exact ⟨by decide, by grind⟩
  | n + 1 => by
    obtain ⟨i1, i2⟩ := euS_bd t0 t1 n
    obtain ⟨j1, j2⟩ := eu_nn t0 t1 n
    show 0 ≤ euS t n + eu t n ∧ euS t n + eu t n + 2 * eu t (n + 1) ≤ 1
    exact ⟨by grind, by grind⟩
theorem euS_0 : ∀ n, euS 0 n = 0
  | 0 => rfl
  | n + 1 => by
    have h : ∀ n, eu 0 n = 0 := fun n => by
      induction n with
      | zero => show (0 : Rat) * w2 0 = 0; grind
      | succ n ih =>
        show eu 0 n * (0 * 0 * w2 0) * _ = 0
        rw [ih]; grind
    show euS 0 n + eu 0 n = 0
    rw [euS_0 n, h n]; grind
theorem p500 : (501 : Rat) / 2 ^ 500 ≤ 1 / ((2 ^ 480 : Nat) : Rat) := by decide +kernel
theorem arc_e {x : Rat} (x0 : 0 ≤ x) (x1 : x ≤ 1) : nb (ss (euS x 500) - x * cc (euS x 500)) e90 := by
  have m := arc_main (c := 1) (e := 1 / ((2 ^ 480 : Nat) : Rat)) (f := fun t => euS t 500) (G := fun t => w2 t * (1 - bu t 500)) (b := fun t => bu t 500) (by decide +kernel) (by decide +kernel) (dv_euS (by decide +kernel) (by decide +kernel) 500) (euS_0 500) (fun t _ _ => rfl) (fun t t0 t1 => by
    obtain ⟨b0, b1⟩ := bu_bd t0 t1 500
    have p := p500
    have P0 : (0 : Rat) < 2 ^ 500 := rp_pos (by decide +kernel) 500
    have e : ((500 + 1 : Nat) : Rat) = 501 := by simp
    rw [e] at b1
    show nb (bu t 500) _
    generalize bu t 500 = β at *
    have d : 2 ^ 500 * ((501 : Rat) / 2 ^ 500) = 501 := by
      generalize (2 : Rat) ^ 500 = P at *
      have : P ≠ 0 := by grind
      grind
    generalize (501 : Rat) / 2 ^ 500 = q at *
    have : β ≤ q := mul_cancel_le P0 (by rw [d]; exact b1)
    exact ⟨by grind, by grind⟩) (by decide +kernel) (fun t t0 t1 => by
    obtain ⟨a1, a2⟩ := euS_bd t0 t1 500
    have := (eu_nn t0 t1 500).1
    show nb (euS t 500) 2
    exact ⟨by grind, by grind⟩) x0 x1
  obtain ⟨-, n2, n3⟩ := e90_num
  exact ab_le n3 (by grind)
