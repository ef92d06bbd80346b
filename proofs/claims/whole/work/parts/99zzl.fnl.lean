/-! rows of blocks by natural numbers -/
noncomputable def nRw (f : Nat → Nat → Nat → Bool) (a G H k1 k2 k3 k4 : Nat) (l : List Nat) : Nat → Nat → Bool :=
  List.rec (motive := fun _ => Nat → Nat → Bool) (fun _ _ => true) (fun d _ ih C S => cond (f C S d) (ih (Nat.div (Nat.sub (Nat.add (Nat.mul C G) k1) (Nat.add (Nat.mul S H) k2)) a) (Nat.div (Nat.sub (Nat.add (Nat.add (Nat.mul S G) (Nat.mul C H)) k3) k4) a)) false) l
theorem nC_ok {w a G H k1 k2 C S : Nat} {c s : Int} (ha : 0 < a) (hk1 : k1 = w * H + a * w) (hk2 : k2 = w * G) (hC : (C : Int) = c + w) (hS : (S : Int) = s + w) (hb : -(w : Int) ≤ (c * G - s * H) / a) : ((Nat.div (Nat.sub (Nat.add (Nat.mul C G) k1) (Nat.add (Nat.mul S H) k2)) a : Nat) : Int) = (c * G - s * H) / a + w := by
  have q : -(w : Int) * a ≤ c * G - s * H := by
    have := Int.mul_ediv_self_le (x := c * G - s * H) (k := (a : Int)) (by omega)
    have m := Int.mul_le_mul_of_nonneg_left hb (show (0 : Int) ≤ (a : Int) by omega)
    rw [Int.mul_comm (-(w : Int))]
    omega
  have e : ((Nat.sub (Nat.add (Nat.mul C G) k1) (Nat.add (Nat.mul S H) k2) : Nat) : Int) = (c * G - s * H) + w * a := by
    show ((C * G + k1 - (S * H + k2) : Nat) : Int) = _
    have e1 : ((C * G : Nat) : Int) = c * G + w * G := by rw [Int.natCast_mul, hC, Int.add_mul]
    have e2 : ((S * H : Nat) : Int) = s * H + w * H := by rw [Int.natCast_mul, hS, Int.add_mul]
    have e3 : (k1 : Int) = w * H + w * a := by rw [hk1, Int.natCast_add, Int.natCast_mul, Int.natCast_mul, Int.mul_comm (a : Int)]
    have e4 : (k2 : Int) = w * G := by rw [hk2, Int.natCast_mul]
    rw [Int.neg_mul] at q
    generalize C * G = Z1 at *
    generalize S * H = Z2 at *
    generalize c * (G : Int) = Y1 at *
    generalize s * (H : Int) = Y2 at *
    generalize (w : Int) * (G : Int) = Y3 at *
    generalize (w : Int) * (H : Int) = Y4 at *
    generalize (w : Int) * (a : Int) = Y5 at *
    omega
  show ((Nat.sub (Nat.add (Nat.mul C G) k1) (Nat.add (Nat.mul S H) k2) / a : Nat) : Int) = _
  rw [Int.natCast_ediv, e, Int.add_mul_ediv_right _ _ (by omega)]
theorem nS_ok {w a G H k3 k4 C S : Nat} {c s : Int} (ha : 0 < a) (hk3 : k3 = a * w) (hk4 : k4 = w * G + w * H) (hC : (C : Int) = c + w) (hS : (S : Int) = s + w) (hb : -(w : Int) ≤ (s * G + c * H) / a) : ((Nat.div (Nat.sub (Nat.add (Nat.add (Nat.mul S G) (Nat.mul C H)) k3) k4) a : Nat) : Int) = (s * G + c * H) / a + w := by
  have q : -(w : Int) * a ≤ s * G + c * H := by
    have := Int.mul_ediv_self_le (x := s * G + c * H) (k := (a : Int)) (by omega)
    have m := Int.mul_le_mul_of_nonneg_left hb (show (0 : Int) ≤ (a : Int) by omega)
    rw [Int.mul_comm (-(w : Int))]
    omega
  have e : ((Nat.sub (Nat.add (Nat.add (Nat.mul S G) (Nat.mul C H)) k3) k4 : Nat) : Int) = (s * G + c * H) + w * a := by
    show ((S * G + C * H + k3 - k4 : Nat) : Int) = _
    have e1 : ((S * G : Nat) : Int) = s * G + w * G := by rw [Int.natCast_mul, hS, Int.add_mul]
    have e2 : ((C * H : Nat) : Int) = c * H + w * H := by rw [Int.natCast_mul, hC, Int.add_mul]
    have e3 : (k3 : Int) = w * a := by rw [hk3, Int.natCast_mul, Int.mul_comm]
    have e4 : (k4 : Int) = w * G + w * H := by rw [hk4, Int.natCast_add, Int.natCast_mul, Int.natCast_mul]
    rw [Int.neg_mul] at q
    generalize S * G = Z1 at *
    generalize C * H = Z2 at *
    generalize s * (G : Int) = Y1 at *
    generalize c * (H : Int) = Y2 at *
    generalize (w : Int) * (G : Int) = Y3 at *
    generalize (w : Int) * (H : Int) = Y4 at *
    generalize (w : Int) * (a : Int) = Y5 at *
    omega
  show ((Nat.sub (Nat.add (Nat.add (Nat.mul S G) (Nat.mul C H)) k3) k4 / a : Nat) : Int) = _
  rw [Int.natCast_ediv, e, Int.add_mul_ediv_right _ _ (by omega)]
theorem nRw_ok {f : Nat → Nat → Nat → Bool} {w a G H k1 k2 k3 k4 : Nat} (ha : 0 < a) (hk1 : k1 = w * H + a * w) (hk2 : k2 = w * G) (hk3 : k3 = a * w) (hk4 : k4 = w * G + w * H) :
    ∀ (l : List Nat) (C S : Nat) (c s : Int), (C : Int) = c + w → (S : Int) = s + w → (∀ i, i < l.length → (hw a G H c s i).1.natAbs ≤ w ∧ (hw a G H c s i).2.natAbs ≤ w) → nRw f a G H k1 k2 k3 k4 l C S = true →
      ∀ i, i < l.length → ∃ d C' S' : Nat, (C' : Int) = (hw a G H c s i).1 + w ∧ (S' : Int) = (hw a G H c s i).2 + w ∧ f C' S' d = true
  | [], _, _, _, _, _, _, _, _, i, hi => absurd hi (Nat.not_lt_zero _)
  | d :: l, C, S, c, s, hC, hS, hb, h, i, hi => by
    have h' : cond (f C S d) (nRw f a G H k1 k2 k3 k4 l (Nat.div (Nat.sub (Nat.add (Nat.mul C G) k1) (Nat.add (Nat.mul S H) k2)) a) (Nat.div (Nat.sub (Nat.add (Nat.add (Nat.mul S G) (Nat.mul C H)) k3) k4) a)) false = true := h
    cases hf : f C S d with
    | false => rw [hf] at h'; cases h'
    | true =>
      rw [hf] at h'
      have h2 : nRw f a G H k1 k2 k3 k4 l (Nat.div (Nat.sub (Nat.add (Nat.mul C G) k1) (Nat.add (Nat.mul S H) k2)) a) (Nat.div (Nat.sub (Nat.add (Nat.add (Nat.mul S G) (Nat.mul C H)) k3) k4) a) = true := h'
      cases i with
      | zero => exact ⟨d, C, S, hC, hS, hf⟩
      | succ i =>
        have hi' : i + 1 < l.length + 1 := hi
        have hb1 := hb 1 (by show 1 < l.length + 1; omega)
        have p1 : (c * G - s * H) / (a : Int) = (hw a G H c s 1).1 := rfl
        have p2 : (s * G + c * H) / (a : Int) = (hw a G H c s 1).2 := rfl
        have b1 : -(w : Int) ≤ (c * G - s * H) / (a : Int) := by rw [p1]; have := hb1.1; omega
        have b2 : -(w : Int) ≤ (s * G + c * H) / (a : Int) := by rw [p2]; have := hb1.2; omega
        have c1 := nC_ok ha hk1 hk2 hC hS b1
        have c2 := nS_ok ha hk3 hk4 hC hS b2
        have r := nRw_ok ha hk1 hk2 hk3 hk4 l _ _ _ _ c1 c2 (fun j hj => by
          rw [hw_suc]
          exact hb (j + 1) (by show j + 1 < l.length + 1; omega)) h2 i (by omega)
        rw [hw_suc] at r
        exact r
/-- a check that finds its numbers somehow, and puts them to nB2 -/
def nF (f : Nat → Nat → Nat → Bool) (w q0 d0 e0 u0 v0 z0 q1 d1 e1 u1 v1 z1 q2 d2 e2 u2 v2 z2 q3 d3 e3 u3 v3 z3 P h nl Q c0 κ L : Nat) : Prop :=
  ∀ C S d, f C S d = true → ∃ A0 B0 D0 A1 B1 D1 A2 B2 D2 A3 B3 D3 : Nat, (A0 < q0 ∧ B0 < q0 ∧ D0 < q0) ∧ (A1 < q1 ∧ B1 < q1 ∧ D1 < q1) ∧ (A2 < q2 ∧ B2 < q2 ∧ D2 < q2) ∧ (A3 < q3 ∧ B3 < q3 ∧ D3 < q3) ∧ nB2 w q0 d0 e0 u0 v0 z0 q1 d1 e1 u1 v1 z1 q2 d2 e2 u2 v2 z2 q3 d3 e3 u3 v3 z3 P h nl Q c0 κ L C S A0 B0 D0 A1 B1 D1 A2 B2 D2 A3 B3 D3 = true
/-- a row of blocks: no angle near a whole number of billionths -/
theorem an_row {w q0 d0 e0 u0 v0 z0 q1 d1 e1 u1 v1 z1 q2 d2 e2 u2 v2 z2 q3 d3 e3 u3 v3 z3 P h nl Q c0 κ L e M K wv W a G H k1 k2 k3 k4 : Nat} {ks : List (List Int)} {E η : Rat}
    (hz : nZ w q0 d0 e0 u0 v0 z0 q1 d1 e1 u1 v1 z1 q2 d2 e2 u2 v2 z2 q3 d3 e3 u3 v3 z3 P h nl Q c0 ks)
    (az : anZ P h nl e κ L M K wv W ks [q0, (q0 + d0) * w, (q0 + d0) * w, q1, (q1 + d1) * w, (q1 + d1) * w, q2, (q2 + d2) * w, (q2 + d2) * w, q3, (q3 + d3) * w, (q3 + d3) * w] [q0, q1, q2, q3] E η)
    (ha : 0 < a) (hk1 : k1 = w * H + a * w) (hk2 : k2 = w * G) (hk3 : k3 = a * w) (hk4 : k4 = w * G + w * H)
    (hWa : 16 * ((2 ^ W : Nat) : Rat) ≤ ((a : Int) : Rat)) (hWt : ((2 ^ W : Nat) : Rat) * t4 ≤ 1/4) (hW9 : 2 * 2 ^ W + 600000 ≤ w)
    {θ Δ : Rat} (hΔe : Δ = 2 * ((2 * M + 1 : Nat) : Rat) / 1000000000) (hΔ1 : Δ ≤ 1)
    (hG : nb (((G : Int) : Rat) - cc Δ * ((a : Int) : Rat)) 1) (hH : nb (((H : Int) : Rat) - ss Δ * ((a : Int) : Rat)) 1) (hGH : 1000000000 * 1000000000 * ((G : Int) * G + H * H) ≤ 1000000001 * 1000000001 * ((a : Int) * a))
    {l : List Nat} {C S : Nat} (hl : l.length ≤ 100000) (hlE : 5 * (l.length : Rat) ≤ E) (hθ : 0 ≤ θ) (hm : θ + (l.length : Rat) * Δ ≤ 10)
    (h0 : nb ((((C : Int) - w : Int) : Rat) - ((2 ^ W : Nat) : Rat) * cc θ) 3 ∧ nb ((((S : Int) - w : Int) : Rat) - ((2 ^ W : Nat) : Rat) * ss θ) 3)
    {f : Nat → Nat → Nat → Bool} (hf9 : nF f w q0 d0 e0 u0 v0 z0 q1 d1 e1 u1 v1 z1 q2 d2 e2 u2 v2 z2 q3 d3 e3 u3 v3 z3 P h nl Q c0 κ L) (hL : nRw f a G H k1 k2 k3 k4 l C S = true)
    {i : Nat} (hi : i < l.length) {x y n : Int} (hn : n.natAbs ≤ M) {φ : Rat} (hφ : 2 * φ = θ + (i : Rat) * Δ + 2 * ((n : Rat) / 1000000000)) (hr : x * x + y * y ≤ 2000000000000) (hxy : ¬ (x % 2 = 0 ∧ y % 2 = 0)) : ¬ nb ((x : Rat) * ss φ - (y : Rat) * cc φ) η := by
  have Δ0 : 0 ≤ Δ := by
    have : (0 : Rat) ≤ ((2 * M + 1 : Nat) : Rat) := Rat.natCast_nonneg
    rw [hΔe]; grind
  have W0 : (0 : Rat) ≤ ((2 ^ W : Nat) : Rat) := Rat.natCast_nonneg
  have hlr : (0 : Rat) ≤ (l.length : Rat) := Rat.natCast_nonneg
  have her := hw_err (a := (a : Int)) (G := (G : Int)) (H := (H : Int)) (c0 := (C : Int) - w) (s0 := (S : Int) - w) (W := ((2 ^ W : Nat) : Rat)) (θ := θ) (Δ := Δ) (m := l.length) (by omega) W0 hWa hWt hθ Δ0 (by grind) hΔ1 hl hG hH hGH h0
  have near : ∀ j, j < l.length → nb (((hw a G H ((C : Int) - w) ((S : Int) - w) j).1 : Rat) - ((2 ^ W : Nat) : Rat) * cc (θ + (j : Rat) * Δ)) E ∧ nb (((hw a G H ((C : Int) - w) ((S : Int) - w) j).2 : Rat) - ((2 ^ W : Nat) : Rat) * ss (θ + (j : Rat) * Δ)) E ∧ E ≤ E := fun j hj => by
    have k := her j (by omega)
    have j1 : ((j + 1 : Nat) : Rat) ≤ (l.length : Rat) := Rat.natCast_le_natCast.mpr hj
    have ej : ((j + 1 : Nat) : Rat) = (j : Rat) + 1 := by simp
    rw [ej] at j1
    have j0 : (0 : Rat) ≤ (j : Rat) := Rat.natCast_nonneg
    generalize ((hw a G H ((C : Int) - w) ((S : Int) - w) j).1 : Rat) - ((2 ^ W : Nat) : Rat) * cc (θ + (j : Rat) * Δ) = X at *
    generalize ((hw a G H ((C : Int) - w) ((S : Int) - w) j).2 : Rat) - ((2 ^ W : Nat) : Rat) * ss (θ + (j : Rat) * Δ) = Y at *
    have x0 := sq_nn X
    have y0 := sq_nn Y
    have b5 : nb X (5 * ((j : Rat) + 1)) := ab_le (by grind) (by grind)
    have b6 : nb Y (5 * ((j : Rat) + 1)) := ab_le (by grind) (by grind)
    exact ⟨nb_mono b5 (by grind), nb_mono b6 (by grind), by grind⟩
  have E5 : ∀ j, j < l.length → nb (((hw a G H ((C : Int) - w) ((S : Int) - w) j).1 : Rat) - ((2 ^ W : Nat) : Rat) * cc (θ + (j : Rat) * Δ)) 500000 ∧ nb (((hw a G H ((C : Int) - w) ((S : Int) - w) j).2 : Rat) - ((2 ^ W : Nat) : Rat) * ss (θ + (j : Rat) * Δ)) 500000 := fun j hj => by
    have k := her j (by omega)
    have j1 : ((j + 1 : Nat) : Rat) ≤ ((100000 : Nat) : Rat) := Rat.natCast_le_natCast.mpr (by omega)
    have ej : ((j + 1 : Nat) : Rat) = (j : Rat) + 1 := by simp
    have e5 : ((100000 : Nat) : Rat) = 100000 := by simp
    rw [ej, e5] at j1
    have j0 : (0 : Rat) ≤ (j : Rat) := Rat.natCast_nonneg
    generalize ((hw a G H ((C : Int) - w) ((S : Int) - w) j).1 : Rat) - ((2 ^ W : Nat) : Rat) * cc (θ + (j : Rat) * Δ) = X at *
    generalize ((hw a G H ((C : Int) - w) ((S : Int) - w) j).2 : Rat) - ((2 ^ W : Nat) : Rat) * ss (θ + (j : Rat) * Δ) = Y at *
    have x0 := sq_nn X
    have y0 := sq_nn Y
    have b5 : nb X (5 * ((j : Rat) + 1)) := ab_le (by grind) (by grind)
    have b6 : nb Y (5 * ((j : Rat) + 1)) := ab_le (by grind) (by grind)
    exact ⟨nb_mono b5 (by grind), nb_mono b6 (by grind)⟩
  have th : ∀ j, j < l.length → nb (θ + (j : Rat) * Δ) 10 := fun j hj => by
    have j1 : (j : Rat) ≤ (l.length : Rat) := Rat.natCast_le_natCast.mpr (by omega)
    have j0 : (0 : Rat) ≤ (j : Rat) := Rat.natCast_nonneg
    have m1 := Rat.mul_nonneg j0 Δ0
    have m2 := Rat.mul_le_mul_of_nonneg_right j1 Δ0
    constructor <;> grind
  have sz : ∀ (z : Int) (t : Rat), nb t 2 → nb ((z : Rat) - ((2 ^ W : Nat) : Rat) * t) 500000 → z.natAbs ≤ w := fun z t ht hz => by
    have k := nb_mul (show nb ((2 ^ W : Nat) : Rat) ((2 ^ W : Nat) : Rat) from ⟨by grind, by grind⟩) ht
    have e : ((2 * 2 ^ W + 600000 : Nat) : Rat) = 2 * ((2 ^ W : Nat) : Rat) + 600000 := by
      rw [Rat.natCast_add, Rat.natCast_mul]
      have a1 : ((2 : Nat) : Rat) = 2 := rfl
      have a2 : ((600000 : Nat) : Rat) = 600000 := by simp
      rw [a1, a2]
    have e2 : ((2 * 2 ^ W + 600000 : Nat) : Rat) ≤ (w : Rat) := Rat.natCast_le_natCast.mpr hW9
    rw [e] at e2
    obtain ⟨k1, k2⟩ := k
    obtain ⟨z1, z2⟩ := hz
    have r1 : (z : Rat) ≤ ((w : Int) : Rat) := by
      have : ((w : Int) : Rat) = (w : Rat) := rfl
      rw [this]; grind
    have r2 : ((-(w : Int) : Int) : Rat) ≤ (z : Rat) := by
      have : ((w : Int) : Rat) = (w : Rat) := rfl
      rw [Rat.intCast_neg, this]; grind
    have i1 := Rat.intCast_le_intCast.mp r1
    have i2 := Rat.intCast_le_intCast.mp r2
    omega
  have bnd : ∀ j, j < l.length → (hw a G H ((C : Int) - w) ((S : Int) - w) j).1.natAbs ≤ w ∧ (hw a G H ((C : Int) - w) ((S : Int) - w) j).2.natAbs ≤ w := fun j hj => by
    obtain ⟨y1, y2⟩ := cs_bd (th j hj) (by decide +kernel)
    obtain ⟨k1, k2⟩ := E5 j hj
    exact ⟨sz _ _ y1 k1, sz _ _ y2 k2⟩
  obtain ⟨d, C', S', hC', hS', hf⟩ := nRw_ok ha hk1 hk2 hk3 hk4 l C S ((C : Int) - w) ((S : Int) - w) (by omega) (by omega) bnd hL i hi
  obtain ⟨bi1, bi2⟩ := bnd i hi
  obtain ⟨n1, n2, _⟩ := near i hi
  have az' := az
  unfold anZ at az'
  obtain ⟨y1, y2, y3, y4, _⟩ := az'
  obtain ⟨A0, B0, D0, A1, B1, D1, A2, B2, D2, A3, B3, D3, x0, x1, x2, x3, hf'⟩ := hf9 C' S' d hf
  obtain ⟨T, hT⟩ := nB2_ok hz y1 y2 y3 y4 (by omega) (by omega) x0 x1 x2 x3 hf'
  have e1 : (C' : Int) - w = (hw a G H ((C : Int) - w) ((S : Int) - w) i).1 := by omega
  have e2 : (S' : Int) - w = (hw a G H ((C : Int) - w) ((S : Int) - w) i).2 := by omega
  rw [e1, e2] at hT
  exact an_blk az rfl (by grind) hT (th i hi) n1 n2 hn hφ hr hxy
/-! the form's numbers out of fewer: the higher ones given, the lower ones by what must nearly vanish -/
def nQt (w C S q dl be D B : Nat) : Nat := Nat.sub (Nat.add (Nat.add (Nat.mul D C) (Nat.mul B S)) be) (Nat.add (Nat.add (Nat.mul q C) (Nat.mul dl S)) (Nat.mul w (Nat.add D B)))
/-- level 0: tP1 tQ1 tR1 and tP2 tQ2 known -/
def nA0 (Z i2 q0 x0 Cm Sm mQ mR b : Nat) : Nat := Nat.mod (Nat.div (Nat.mod (Nat.add (Nat.add (Nat.mul (Nat.add Cm i2) mQ) (Nat.mul (Nat.mul (Nat.sub Z 1) Sm) mR)) b) Z) x0) q0
def nD0 (Z i2 q0 x0 Cm Sm mQ mR b : Nat) : Nat := Nat.mod (Nat.div (Nat.mod (Nat.add (Nat.add (Nat.mul (Nat.mul (Nat.sub Z 1) (Nat.add Cm i2)) mQ) (Nat.mul Sm mR)) b) Z) x0) q0
def nB0 (Z q0 x0 Cm Sm mQ mR b : Nat) : Nat := Nat.mod (Nat.div (Nat.mod (Nat.add (Nat.add (Nat.mul Sm mQ) (Nat.mul Cm mR)) b) Z) x0) q0
def nA1 (Z i2 q1 x1 mP u v2 b a : Nat) : Nat := Nat.mod (Nat.add (Nat.div (Nat.mod (Nat.add (Nat.add (Nat.mul i2 mP) (Nat.add u v2)) b) Z) x1) a) q1
def nB1 (Z q1 x1 Cm Sm mQ mR b a : Nat) : Nat := Nat.mod (Nat.add (Nat.div (Nat.mod (Nat.add (Nat.add (Nat.mul Sm mQ) (Nat.mul (Nat.mul 2 Cm) mR)) b) Z) x1) a) q1
