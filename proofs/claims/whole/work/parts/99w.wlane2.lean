/-! heads of waves: a turn keeps an error's length -/
theorem ab_le {x M : Rat} (hM : 0 ≤ M) (h : x * x ≤ M * M) : nb x M := by
  constructor
  · exact Decidable.byContradiction (fun q => by
      have := Rat.mul_pos (show 0 < -x - M by grind) (show 0 < -x + M by grind)
      grind)
  · exact Decidable.byContradiction (fun q => by
      have := Rat.mul_pos (show 0 < x - M by grind) (show 0 < x + M by grind)
      grind)
theorem cauchy (u v a b : Rat) : (u * a + v * b) * (u * a + v * b) ≤ (u * u + v * v) * (a * a + b * b) := by
  have := sq_nn (u * b - v * a)
  grind
theorem rot_err {x y p q r1 r2 N κ : Rat} (hN : 0 ≤ N) (hκ : 0 ≤ κ) (h : x * x + y * y ≤ N * N) (hpq : p * p + q * q ≤ κ * κ) (h1 : nb r1 2) (h2 : nb r2 2) : (x * p - y * q + r1) * (x * p - y * q + r1) + (y * p + x * q + r2) * (y * p + x * q + r2) ≤ (N * κ + 4) * (N * κ + 4) := by
  have e : (x * p - y * q) * (x * p - y * q) + (y * p + x * q) * (y * p + x * q) = (x * x + y * y) * (p * p + q * q) := by grind
  have n1 := sq_nn x
  have n2 := sq_nn y
  have n3 := sq_nn p
  have n4 := sq_nn q
  have m1 := Rat.mul_le_mul_of_nonneg_right h (show 0 ≤ p * p + q * q by grind)
  have m2 := Rat.mul_le_mul_of_nonneg_right hpq (Rat.mul_nonneg hN hN)
  have hM : 0 ≤ N * κ := Rat.mul_nonneg hN hκ
  have hU : (x * p - y * q) * (x * p - y * q) + (y * p + x * q) * (y * p + x * q) ≤ N * κ * (N * κ) := by grind
  generalize x * p - y * q = u at *
  generalize y * p + x * q = v at *
  generalize N * κ = M at *
  have c := cauchy u v r1 r2
  have s1 := nb_mul h1 h1
  have s2 := nb_mul h2 h2
  have r8 : r1 * r1 + r2 * r2 ≤ 9 := by have := s1.2; have := s2.2; grind
  have r0 : 0 ≤ r1 * r1 + r2 * r2 := by have := sq_nn r1; have := sq_nn r2; grind
  have r88 : r1 * r1 + r2 * r2 ≤ 8 := by have := s1.2; have := s2.2; grind
  have u0 : 0 ≤ u * u + v * v := by have := sq_nn u; have := sq_nn v; grind
  have m3 := Rat.mul_le_mul_of_nonneg_right r8 u0
  have m4 : (u * r1 + v * r2) * (u * r1 + v * r2) ≤ 3 * M * (3 * M) := by grind
  have k := (ab_le (show 0 ≤ 3 * M by grind) m4).2
  grind
def hw (a G H c0 s0 : Int) : Nat → Int × Int
  | 0 => (c0, s0)
  | i + 1 => (((hw a G H c0 s0 i).1 * G - (hw a G H c0 s0 i).2 * H) / a, ((hw a G H c0 s0 i).2 * G + (hw a G H c0 s0 i).1 * H) / a)
theorem hw_err {a G H c0 s0 : Int} {W θ Δ : Rat} {m : Nat} (ha : 0 < a) (hW : 0 ≤ W) (hWa : 16 * W ≤ (a : Rat)) (hWt : W * t4 ≤ 1/4) (hθ : 0 ≤ θ) (hΔ : 0 ≤ Δ) (hm : θ + (m : Rat) * Δ ≤ 100) (hΔ1 : Δ ≤ 1) (hm5 : m ≤ 100000)
    (hG : nb ((G : Rat) - cc Δ * (a : Rat)) 1) (hH : nb ((H : Rat) - ss Δ * (a : Rat)) 1) (hGH : 1000000000 * 1000000000 * (G * G + H * H) ≤ 1000000001 * 1000000001 * (a * a)) (h0 : nb ((c0 : Rat) - W * cc θ) 3 ∧ nb ((s0 : Rat) - W * ss θ) 3) :
    ∀ i, i ≤ m → (((hw a G H c0 s0 i).1 : Rat) - W * cc (θ + (i : Rat) * Δ)) * (((hw a G H c0 s0 i).1 : Rat) - W * cc (θ + (i : Rat) * Δ)) + (((hw a G H c0 s0 i).2 : Rat) - W * ss (θ + (i : Rat) * Δ)) * (((hw a G H c0 s0 i).2 : Rat) - W * ss (θ + (i : Rat) * Δ)) ≤ (5 * ((i : Rat) + 1)) * (5 * ((i : Rat) + 1))
  | 0, _ => by
    have e0 : ((0 : Nat) : Rat) = 0 := rfl
    rw [e0, show θ + 0 * Δ = θ by grind]
    have s1 := (nb_mul h0.1 h0.1).2
    have s2 := (nb_mul h0.2 h0.2).2
    show ((c0 : Rat) - W * cc θ) * ((c0 : Rat) - W * cc θ) + ((s0 : Rat) - W * ss θ) * ((s0 : Rat) - W * ss θ) ≤ _
    grind
  | i + 1, hi => by
    have ih := hw_err ha hW hWa hWt hθ hΔ hm hΔ1 hm5 hG hH hGH h0 i (by omega)
    have har : (0 : Rat) < (a : Rat) := by
      have : ((0 : Int) : Rat) < (a : Rat) := Rat.intCast_lt_intCast.mpr ha
      simpa using this
    have ei : ((i + 1 : Nat) : Rat) = (i : Rat) + 1 := by simp
    have i0 : (0 : Rat) ≤ (i : Rat) := Rat.natCast_nonneg
    have im : (i : Rat) + 1 ≤ (m : Rat) := by
      have : ((i + 1 : Nat) : Rat) ≤ (m : Rat) := Rat.natCast_le_natCast.mpr hi
      rw [ei] at this; exact this
    have i5 : (i : Rat) ≤ 100000 := by
      have : (i : Rat) ≤ ((100000 : Nat) : Rat) := Rat.natCast_le_natCast.mpr (by omega)
      simpa using this
    have iΔ := Rat.mul_nonneg i0 hΔ
    have iΔ2 := Rat.mul_le_mul_of_nonneg_right im hΔ
    have hb1 : nb (θ + (i : Rat) * Δ) 100 := ⟨by grind, by grind⟩
    have hb2 : nb Δ 1 := ⟨by grind, hΔ1⟩
    obtain ⟨k1, k2⟩ := cs_add hb1 hb2 (by decide +kernel)
    obtain ⟨b1, b2⟩ := cs_bd hb1 (by decide +kernel)
    rw [show θ + (i : Rat) * Δ + Δ = θ + ((i : Rat) + 1) * Δ by grind] at k1 k2
    rw [ei]
    have E1 : (hw a G H c0 s0 (i + 1)).1 = ((hw a G H c0 s0 i).1 * G - (hw a G H c0 s0 i).2 * H) / a := rfl
    have E2 : (hw a G H c0 s0 (i + 1)).2 = ((hw a G H c0 s0 i).2 * G + (hw a G H c0 s0 i).1 * H) / a := rfl
    rw [E1, E2]
    obtain ⟨f1, f2⟩ := rd_le (p := (hw a G H c0 s0 i).1 * G - (hw a G H c0 s0 i).2 * H) ha
    obtain ⟨f3, f4⟩ := rd_le (p := (hw a G H c0 s0 i).2 * G + (hw a G H c0 s0 i).1 * H) ha
    rw [Rat.intCast_sub, Rat.intCast_mul, Rat.intCast_mul] at f1 f2
    rw [Rat.intCast_add, Rat.intCast_mul, Rat.intCast_mul] at f3 f4
    have hpq : ((G : Rat) / (a : Rat)) * ((G : Rat) / (a : Rat)) + ((H : Rat) / (a : Rat)) * ((H : Rat) / (a : Rat)) ≤ (1000000001/1000000000) * (1000000001/1000000000) := by
      have r : ((1000000000 * 1000000000 * (G * G + H * H) : Int) : Rat) ≤ ((1000000001 * 1000000001 * (a * a) : Int) : Rat) := Rat.intCast_le_intCast.mpr hGH
      rw [Rat.intCast_mul, Rat.intCast_mul, Rat.intCast_add, Rat.intCast_mul, Rat.intCast_mul, Rat.intCast_mul, Rat.intCast_mul, Rat.intCast_mul] at r
      have c1 : ((1000000000 : Int) : Rat) = 1000000000 := by simp
      have c2 : ((1000000001 : Int) : Rat) = 1000000001 := by simp
      rw [c1, c2] at r
      have hne : (a : Rat) ≠ 0 := by grind
      have g1 : (a : Rat) * ((G : Rat) / (a : Rat)) = (G : Rat) := by grind
      have g2 : (a : Rat) * ((H : Rat) / (a : Rat)) = (H : Rat) := by grind
      rw [← g1, ← g2] at r
      generalize (G : Rat) / (a : Rat) = p at *
      generalize (H : Rat) / (a : Rat) = q at *
      have haa := Rat.mul_pos har har
      refine mul_cancel_le haa ?_
      grind
    have hne : (a : Rat) ≠ 0 := by grind
    have g1 : (a : Rat) * ((G : Rat) / (a : Rat)) = (G : Rat) := by grind
    have g2 : (a : Rat) * ((H : Rat) / (a : Rat)) = (H : Rat) := by grind
    rw [← g1] at f1 f2 f3 f4 hG
    rw [← g2] at f1 f2 f3 f4 hH
    generalize ((((hw a G H c0 s0 i).1 * G - (hw a G H c0 s0 i).2 * H) / a : Int) : Rat) = C' at *
    generalize ((((hw a G H c0 s0 i).2 * G + (hw a G H c0 s0 i).1 * H) / a : Int) : Rat) = S' at *
    generalize ((hw a G H c0 s0 i).1 : Rat) = C at *
    generalize ((hw a G H c0 s0 i).2 : Rat) = S at *
    generalize (G : Rat) / (a : Rat) = p at *
    generalize (H : Rat) / (a : Rat) = q at *
    generalize cc (θ + ((i : Rat) + 1) * Δ) = c' at *
    generalize ss (θ + ((i : Rat) + 1) * Δ) = s' at *
    generalize cc (θ + (i : Rat) * Δ) = c at *
    generalize ss (θ + (i : Rat) * Δ) = s at *
    generalize cc Δ = P at *
    generalize ss Δ = Q at *
    generalize (a : Rat) = A at *
    -- the two remainders
    have pP : nb (W * (p - P)) (1/16) := by
      obtain ⟨x1, x2⟩ := hG
      have y1 : -(1 : Rat) ≤ A * (p - P) := by grind
      have y2 : A * (p - P) ≤ 1 := by grind
      have z := nb_mul (show nb (A * (p - P)) 1 from ⟨y1, y2⟩) (show nb (16 * W) A from ⟨by grind, hWa⟩)
      obtain ⟨z1, z2⟩ := z
      constructor
      · exact mul_cancel_le har (by grind)
      · exact mul_cancel_le har (by grind)
    have qQ : nb (W * (q - Q)) (1/16) := by
      obtain ⟨x1, x2⟩ := hH
      have y1 : -(1 : Rat) ≤ A * (q - Q) := by grind
      have y2 : A * (q - Q) ≤ 1 := by grind
      have z := nb_mul (show nb (A * (q - Q)) 1 from ⟨y1, y2⟩) (show nb (16 * W) A from ⟨by grind, hWa⟩)
      obtain ⟨z1, z2⟩ := z
      constructor
      · exact mul_cancel_le har (by grind)
      · exact mul_cancel_le har (by grind)
    have w1 := nb_mul (show nb W W from ⟨by grind, by grind⟩) k1
    have w2 := nb_mul (show nb W W from ⟨by grind, by grind⟩) k2
    have d1 : nb (C' - (C * p - S * q)) 1 := by
      constructor
      · exact mul_cancel_le har (by grind)
      · exact mul_cancel_le har (by grind)
    have d2 : nb (S' - (S * p + C * q)) 1 := by
      constructor
      · exact mul_cancel_le har (by grind)
      · exact mul_cancel_le har (by grind)
    have m1 := nb_mul b1 pP
    have m2 := nb_mul b2 qQ
    have m3 := nb_mul b2 pP
    have m4 := nb_mul b1 qQ
    have r1 : nb (C' - W * c' - ((C - W * c) * p - (S - W * s) * q)) 2 := by
      obtain ⟨a1, a2⟩ := d1
      obtain ⟨e1, e2⟩ := m1
      obtain ⟨e3, e4⟩ := m2
      obtain ⟨e5, e6⟩ := w1
      constructor <;> grind
    have r2 : nb (S' - W * s' - ((S - W * s) * p + (C - W * c) * q)) 2 := by
      obtain ⟨a1, a2⟩ := d2
      obtain ⟨e1, e2⟩ := m3
      obtain ⟨e3, e4⟩ := m4
      obtain ⟨e5, e6⟩ := w2
      constructor <;> grind
    have R := rot_err (x := C - W * c) (y := S - W * s) (p := p) (q := q) (N := 5 * ((i : Rat) + 1)) (κ := 1000000001/1000000000) (by grind) (by decide +kernel) ih hpq r1 r2
    have x1 : (C - W * c) * p - (S - W * s) * q + (C' - W * c' - ((C - W * c) * p - (S - W * s) * q)) = C' - W * c' := by grind
    have x2 : (S - W * s) * p + (C - W * c) * q + (S' - W * s' - ((S - W * s) * p + (C - W * c) * q)) = S' - W * s' := by grind
    rw [x1, x2] at R
    have fin : 5 * ((i : Rat) + 1) * (1000000001/1000000000) + 4 ≤ 5 * ((i : Rat) + 1 + 1) := by grind
    have z0 : 0 ≤ 5 * ((i : Rat) + 1) * (1000000001/1000000000) + 4 := by grind
    have f9 := Rat.mul_le_mul_of_nonneg_right fin z0
    have f8 := Rat.mul_le_mul_of_nonneg_right fin (show 0 ≤ 5 * ((i : Rat) + 1 + 1) by grind)
    generalize 5 * ((i : Rat) + 1) * (1000000001/1000000000) + 4 = X at *
    generalize 5 * ((i : Rat) + 1 + 1) = Y at *
    grind
