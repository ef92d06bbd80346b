/-! the logarithm's truth: pieces -/
theorem ee_tiny {δ d : Rat} (h : nb δ d) (hd : d ≤ 1/2) : nb (ee δ - 1) (d + d * d) := by
  have d0 := nb_nn h
  have base : ∀ x : Rat, 0 ≤ x → x ≤ d → nb (ee x - 1) (d + d * d) ∧ nb (ee (-x) - 1) (d + d * d) := fun x x0 x1 => by
    have t := eS_tail x0 (show x ≤ 1 by grind) 1 798
    rw [show 1 + 1 + 798 = 800 from rfl, show 1 + 1 = 2 from rfl] at t
    have p := eT_nn x0 800
    have m := eS_mono x0 798 2
    rw [show 2 + 798 = 800 from rfl] at m
    have a := eS_ab x0 2 798
    rw [show 2 + 798 = 800 from rfl] at a
    have t2 := eT_s x 1
    have c2 : ((1 + 1 : Nat) : Rat) = 2 := by decide +kernel
    rw [c2, eT_1] at t2
    have e2 : eT x 2 = eT x (1 + 1) := rfl
    have s2 : eS x 2 = 1 + eT x 1 + eT x 2 := rfl
    have s2' : eS (-x) 2 = 1 + eT (-x) 1 + eT (-x) 2 := rfl
    have g2 := eT_neg x 2
    rw [if_neg (by decide)] at g2
    rw [eT_1] at s2 s2'
    rw [g2] at s2'
    rw [s2] at t a m
    rw [s2'] at a
    rw [← e2] at t2
    have xx := Rat.mul_nonneg x0 x0
    have xd := Rat.mul_le_mul_of_nonneg_right x1 x0
    have dd := Rat.mul_le_mul_of_nonneg_right x1 d0
    unfold ee
    generalize eS x 800 = X at *
    generalize eT x 800 = Y at *
    generalize eS (-x) 800 = Z at *
    generalize eT x 2 = W at *
    obtain ⟨a1, a2⟩ := a
    refine ⟨⟨?_, ?_⟩, ⟨?_, ?_⟩⟩ <;> grind
  rcases (show 0 ≤ δ ∨ δ ≤ 0 by grind) with q | q
  · exact (base δ q h.2).1
  · have k := (base (-δ) (by grind) (by have := h.1; grind)).2
    rw [show - -δ = δ by grind] at k
    exact k
/-- the ratio: g = e to twice the sum at r; s z = m, r a little below z -/
theorem lg_rat {g r z s u lo hi : Rat} (s0 : 0 < s) (r0 : 0 ≤ r) (r1 : r ≤ 3/17) (u0 : 0 ≤ u) (z1 : r ≤ z) (z2 : z ≤ r + u) (hg : nb (g * (2 * (1 / (1 + r)) + -1) - 1) t4) (hhi : s * (1 + z) = 2 * hi) (hlo : s * (1 - z) = 2 * lo) (tu : 8 * t4 ≤ u) : nb (g * lo - hi) (3 * u * hi) := by
  have t0 := t4_0
  have t1 := t4_1
  have i1 : (1 + r) * (1 / (1 + r)) = 1 := by
    have : 1 + r ≠ 0 := by grind
    grind
  have ib : 0 ≤ 1 / (1 + r) := mul_cancel_le (show 0 < 1 + r by grind) (by grind)
  -- g (1 - r) near 1 + r
  have k1 : nb (g * (1 - r) - (1 + r)) (t4 * 2) := by
    have m := nb_mul hg (show nb (1 + r) 2 from ⟨by grind, by grind⟩)
    have e : (g * (2 * (1 / (1 + r)) + -1) - 1) * (1 + r) = g * (1 - r) - (1 + r) := by
      generalize 1 / (1 + r) = v at *
      have : g * (2 * v + -1) * (1 + r) = g * (2 * ((1 + r) * v) - (1 + r)) := by grind
      have e2 : (g * (2 * v + -1) - 1) * (1 + r) = g * (2 * v + -1) * (1 + r) - (1 + r) := by grind
      rw [e2, this, i1]; grind
    rw [e] at m
    exact m
  obtain ⟨a1, a2⟩ := k1
  have g0 : 0 ≤ g := by
    refine mul_cancel_le (show 0 < 1 - r by grind) ?_
    grind
  have g1 : g ≤ 3/2 := by
    refine mul_cancel_le (show 0 < 1 - r by grind) ?_
    grind
  have w0 : 0 ≤ z - r := by grind
  have w1 : z - r ≤ u := by grind
  have gw := Rat.mul_le_mul_of_nonneg_right g1 w0
  have gw0 := Rat.mul_nonneg g0 w0
  have e1 : g * (1 - z) - (1 + z) = (g * (1 - r) - (1 + r)) - (g + 1) * (z - r) := by grind
  have b : nb (g * (1 - z) - (1 + z)) (11/4 * u) := by
    rw [e1]
    constructor <;> grind
  have c := nb_mul (show nb s s from ⟨by grind, by grind⟩) b
  have e2 : s * (g * (1 - z) - (1 + z)) = 2 * (g * lo - hi) := by
    have : s * (g * (1 - z) - (1 + z)) = g * (s * (1 - z)) - s * (1 + z) := by grind
    rw [this, hlo, hhi]; grind
  rw [e2] at c
  have su := Rat.mul_nonneg (Rat.le_of_lt s0) u0
  have sz := Rat.mul_nonneg (Rat.le_of_lt s0) (show 0 ≤ z by grind)
  have hs : s ≤ 2 * hi := by grind
  have hsu := Rat.mul_le_mul_of_nonneg_right hs u0
  obtain ⟨c1, c2⟩ := c
  constructor <;> grind
/-- turned round -/
theorem lg_rev {g A lo hi u w α : Rat} (hg : g = ee w) (hA : A = ee (-w)) (hw : nb w α) (hα : α ≤ 100) (w0 : 0 ≤ w) (u0 : 0 ≤ u) (tu : 8 * t4 ≤ u) (lo0 : 0 ≤ lo) (h107 : 7 * hi ≤ 10 * lo) (h : nb (g * lo - hi) (3 * u * hi)) : nb (A * hi - lo) (5 * u * lo) := by
  have k := ee_add hw (nb_neg hw) (by grind)
  rw [show w + -w = 0 by grind, ee_0, ← hg, ← hA] at k
  have An := ee_np (x := -w) (by grind) (nb_neg hw) hα
  have Ap := ee_pos (nb_neg hw) hα
  rw [← hA] at An Ap
  have t0 := t4_0
  have t1 := t4_1
  have h0 := nb_nn h
  have m := nb_mul (show nb A (1 + 2 * t4) from ⟨by grind, An⟩) h
  have m2 := nb_mul k (show nb lo lo from ⟨by grind, by grind⟩)
  have e : A * hi - lo = -(A * (g * lo - hi)) + (g * A - 1) * lo := by grind
  rw [e]
  have tl := Rat.mul_le_mul_of_nonneg_right tu lo0
  have ul := Rat.mul_le_mul_of_nonneg_right h107 u0
  have t9 := Rat.mul_le_mul_of_nonneg_right t1 h0
  obtain ⟨m1, m3⟩ := m
  obtain ⟨n1, n2⟩ := m2
  constructor <;> grind
