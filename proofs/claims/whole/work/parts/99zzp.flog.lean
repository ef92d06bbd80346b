/-! forms of one number, with powers of n -/
def hX (X0 X1 X2 n : Rat) : List (Int × Int × Int) → Rat
  | [] => 0
  | (a, b, d) :: l => (b : Rat) * X0 + (a : Rat) * X1 + (d : Rat) * X2 + n * hX X0 X1 X2 n l
def msL (V W : Int) : List (Int × Int × Int) → List Int
  | [] => []
  | (a, b, d) :: l => b :: (a * V) :: (d * W) :: msL V W l
def bh3 : List (Int × Int × Int) → List (Nat × Nat × Nat) → Bool
  | [], [] => true
  | (a, b, d) :: l, (ga, gb, gd) :: gs => Nat.ble a.natAbs ga && (Nat.ble b.natAbs gb && (Nat.ble d.natAbs gd && bh3 l gs))
  | _, _ => false
def sH (m D0 D1 D2 : Rat) : List (Nat × Nat × Nat) → Rat
  | [] => 0
  | (ga, gb, gd) :: gs => (gb : Rat) * D0 + (ga : Rat) * D1 + (gd : Rat) * D2 + m * sH m D0 D1 D2 gs
theorem hX_bd {X0 X1 X2 n m D0 D1 D2 : Rat} (h0 : nb X0 D0) (h1 : nb X1 D1) (h2 : nb X2 D2) (hn : nb n m) : ∀ {T : List (Int × Int × Int)} {gs : List (Nat × Nat × Nat)}, bh3 T gs = true → nb (hX X0 X1 X2 n T) (sH m D0 D1 D2 gs)
  | [], [], _ => by
    show nb 0 0
    constructor <;> grind
  | [], _ :: _, h => by cases h
  | _ :: _, [], h => by cases h
  | (a, b, d) :: l, (ga, gb, gd) :: gs, h => by
    have h' : (Nat.ble a.natAbs ga && (Nat.ble b.natAbs gb && (Nat.ble d.natAbs gd && bh3 l gs))) = true := h
    rw [Bool.and_eq_true, Bool.and_eq_true, Bool.and_eq_true] at h'
    obtain ⟨k1, k2, k3, k4⟩ := h'
    have ih := hX_bd h0 h1 h2 hn k4
    have q1 := nb_mul (nb_le k2) h0
    have q2 := nb_mul (nb_le k1) h1
    have q3 := nb_mul (nb_le k3) h2
    have q4 := nb_mul hn ih
    exact nb_add (nb_add (nb_add q1 q2) q3) q4
theorem hX_sub (X0 X1 X2 Y0 Y1 Y2 n : Rat) : ∀ T, hX X0 X1 X2 n T - hX Y0 Y1 Y2 n T = hX (X0 - Y0) (X1 - Y1) (X2 - Y2) n T
  | [] => by show (0 : Rat) - 0 = 0; grind
  | (a, b, d) :: l => by
    have ih := hX_sub X0 X1 X2 Y0 Y1 Y2 n l
    show (b : Rat) * X0 + (a : Rat) * X1 + (d : Rat) * X2 + n * hX X0 X1 X2 n l - ((b : Rat) * Y0 + (a : Rat) * Y1 + (d : Rat) * Y2 + n * hX Y0 Y1 Y2 n l) = (b : Rat) * (X0 - Y0) + (a : Rat) * (X1 - Y1) + (d : Rat) * (X2 - Y2) + n * hX (X0 - Y0) (X1 - Y1) (X2 - Y2) n l
    rw [← ih]; grind
theorem hX_ml (k X0 X1 X2 n : Rat) : ∀ T, hX (k * X0) (k * X1) (k * X2) n T = k * hX X0 X1 X2 n T
  | [] => by show (0 : Rat) = k * 0; grind
  | (a, b, d) :: l => by
    have ih := hX_ml k X0 X1 X2 n l
    show (b : Rat) * (k * X0) + (a : Rat) * (k * X1) + (d : Rat) * (k * X2) + n * hX (k * X0) (k * X1) (k * X2) n l = k * ((b : Rat) * X0 + (a : Rat) * X1 + (d : Rat) * X2 + n * hX X0 X1 X2 n l)
    rw [ih]; grind
theorem phL_dt (U V f g n : Rat) (v w : Int) : ∀ (T : List (Int × Int × Int)) (j : Nat), dtR (msL v w T) (phA U V f g n j T.length) = n ^ j * hX U (V * ((v : Rat) * f)) (V * ((w : Rat) * g)) n T
  | [], j => by show (0 : Rat) = n ^ j * 0; grind
  | (a, b, d) :: l, j => by
    have ih := phL_dt U V f g n v w l (j + 1)
    show (b : Rat) * (U * n ^ j) + (((a * v : Int) : Rat) * (V * (n ^ j * f)) + (((d * w : Int) : Rat) * (V * (n ^ j * g)) + dtR (msL v w l) (phA U V f g n (j + 1) l.length))) = n ^ j * ((b : Rat) * U + (a : Rat) * (V * ((v : Rat) * f)) + (d : Rat) * (V * ((w : Rat) * g)) + n * hX U (V * ((v : Rat) * f)) (V * ((w : Rat) * g)) n l)
    rw [ih, Rat.intCast_mul, Rat.intCast_mul, Rat.pow_succ]
    generalize hX U (V * ((v : Rat) * f)) (V * ((w : Rat) * g)) n l = G
    generalize (a : Rat) = A
    generalize (b : Rat) = B
    generalize (d : Rat) = D
    generalize (v : Rat) = v'
    generalize (w : Rat) = w'
    generalize n ^ j = N
    grind
/-- the form by the number and its inverse -/
theorem fF_inv (v n : Int) (r : Rat) (h : (v : Rat) * r = 1) : ∀ T, (fF v 1 n T : Rat) = (v : Rat) * hX 1 (v : Rat) r (n : Rat) T
  | [] => by
    show ((0 : Int) : Rat) = (v : Rat) * 0
    have e : ((0 : Int) : Rat) = 0 := rfl
    rw [e]; grind
  | (a, b, d) :: l => by
    have ih := fF_inv v n r h l
    have E : (fF v 1 n ((a, b, d) :: l) : Rat) = (a : Rat) * ((v : Rat) * (v : Rat)) + (b : Rat) * (v : Rat) + (d : Rat) + (n : Rat) * (fF v 1 n l : Rat) := by
      show ((a * (v * v) + b * (v * 1) + d * (1 * 1) + n * fF v 1 n l : Int) : Rat) = _
      rw [Int.mul_one, Int.mul_one, Int.mul_one]
      simp only [Rat.intCast_add, Rat.intCast_mul]
    rw [E, ih]
    show _ = (v : Rat) * ((b : Rat) * 1 + (a : Rat) * (v : Rat) + (d : Rat) * r + (n : Rat) * hX 1 (v : Rat) r (n : Rat) l)
    generalize hX 1 (v : Rat) r (n : Rat) l = G
    generalize (a : Rat) = A
    generalize (b : Rat) = B
    generalize (d : Rat) = D
    generalize (n : Rat) = n'
    generalize (v : Rat) = v' at *
    have k : v' * (D * r) = D := by
      rw [show v' * (D * r) = D * (v' * r) by grind, h]; grind
    grind
theorem fF_one1 (v n : Int) (T : List (Int × Int × Int)) (h1 : (hdT T).2.2 % 2 = 1) (h2 : ((hdT T).1 + (hdT T).2.1) % 2 = 0) (h3 : sD T % 2 = 1) (h4 : (sA T + sBb T) % 2 = 0) : fF v 1 n T ≠ 0 := by
  intro h
  have vv : ∃ k, v * v = v + 2 * k := by
    have hv : v % 2 = 0 ∨ v % 2 = 1 := by omega
    obtain ⟨j, hj⟩ : ∃ j, v = v % 2 + 2 * j := ⟨v / 2, by omega⟩
    rcases hv with hv | hv
    · exact ⟨2 * (j * j) - j, by
        have e : v = 2 * j := by omega
        have e2 : v * v = 4 * (j * j) := by rw [e]; grind
        generalize j * j = J at *
        omega⟩
    · exact ⟨2 * (j * j) + j, by
        have e : v = 1 + 2 * j := by omega
        have e2 : v * v = 1 + 4 * j + 4 * (j * j) := by rw [e]; grind
        generalize j * j = J at *
        omega⟩
  obtain ⟨k, hk⟩ := vv
  have par : ∀ a b d : Int, d % 2 = 1 → (a + b) % 2 = 0 → (a * (v * v) + b * (v * 1) + d * (1 * 1)) % 2 = 1 := fun a b d hd hab => by
    obtain ⟨t, ht⟩ : ∃ t, a + b = 2 * t := ⟨(a + b) / 2, by omega⟩
    have e : a * (v * v) + b * (v * 1) + d * (1 * 1) = 2 * (t * v + a * k) + d := by
      rw [hk, Int.mul_one, Int.mul_one, Int.mul_one]
      have e1 : a * (v + 2 * k) = a * v + 2 * (a * k) := by grind
      have e2 : 2 * (t * v) = a * v + b * v := by rw [← Int.add_mul, ht]; grind
      rw [e1, Int.mul_add, e2]
      omega
    rw [e]
    generalize t * v + a * k = Z
    omega
  have hn : n % 2 = 0 ∨ n % 2 = 1 := by omega
  rcases hn with hn | hn
  · cases T with
    | nil => exact absurd h3 (by show ¬ (0 : Int) % 2 = 1; decide)
    | cons t l =>
      obtain ⟨a, b, d⟩ := t
      obtain ⟨j, hj⟩ : ∃ j, n = 2 * j := ⟨n / 2, by omega⟩
      have h' : a * (v * v) + b * (v * 1) + d * (1 * 1) + n * fF v 1 n l = 0 := h
      have e : n * fF v 1 n l = 2 * (j * fF v 1 n l) := by rw [hj]; grind
      rw [e] at h'
      have p := par a b d h1 h2
      generalize j * fF v 1 n l = J at *
      generalize a * (v * v) + b * (v * 1) + d * (1 * 1) = Z at *
      omega
  · obtain ⟨k', hk'⟩ := fF_odd v 1 n hn T
    rw [fF_one, h] at hk'
    have p := par (sA T) (sBb T) (sD T) h3 h4
    generalize sA T * (v * v) + sBb T * (v * 1) + sD T * (1 * 1) = Z at *
    omega
theorem lg_size {F v G1 G2 U Wr Q1 Q2 x ρ Lm : Rat} (hU : 0 < U) (hW : 0 < Wr) (hF : F = v * (G1 + G2)) (h1 : nb (U * G1) Q1) (h2 : nb (U * G2) Q2) (v0 : 0 ≤ v) (hv : v * Wr ≤ ρ * x) (hρ : 0 ≤ ρ) (hL : (Q1 + Q2) * x ≤ Lm) (hLm : ρ * Lm ≤ 199/200 * (U * Wr)) : nb F (199/200 + 1/1000) := by
  have Q0 : 0 ≤ Q1 + Q2 := by have := nb_nn h1; have := nb_nn h2; grind
  have k := nb_mul (show nb (v * Wr) (v * Wr) from ⟨by have := Rat.mul_nonneg v0 (Rat.le_of_lt hW); grind, by grind⟩) (nb_add h1 h2)
  have m1 := Rat.mul_le_mul_of_nonneg_right hv Q0
  have m2 := Rat.mul_le_mul_of_nonneg_left hL hρ
  have UW := Rat.mul_pos hU hW
  obtain ⟨k1, k2⟩ := k
  have key : nb (U * Wr * F) (199/200 * (U * Wr)) := by
    rw [hF]
    constructor <;> grind
  obtain ⟨d1, d2⟩ := key
  constructor
  · exact mul_cancel_le UW (by grind)
  · exact mul_cancel_le UW (by grind)
