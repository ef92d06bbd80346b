/-! forms of two numbers: by squares and product, with powers of n -/
def fF (x y n : Int) : List (Int × Int × Int) → Int
  | [] => 0
  | (a, b, d) :: l => a * (x * x) + b * (x * y) + d * (y * y) + n * fF x y n l
def gX (X0 X1 X2 n : Rat) : List (Int × Int × Int) → Rat
  | [] => 0
  | (a, b, d) :: l => ((a + d : Int) : Rat) * X0 + ((a - d : Int) : Rat) * X1 + (b : Rat) * X2 + n * gX X0 X1 X2 n l
def bd3 : List (Int × Int × Int) → List Nat → Bool
  | [], [] => true
  | (a, b, d) :: l, g :: gs => Nat.ble (a + d).natAbs g && (Nat.ble (a - d).natAbs g && (Nat.ble b.natAbs g && bd3 l gs))
  | _, _ => false
def sB (m : Rat) : List Nat → Rat
  | [] => 0
  | g :: gs => 3 * (g : Rat) + m * sB m gs
theorem sB_nn {m : Rat} (h : 0 ≤ m) : ∀ gs, 0 ≤ sB m gs
  | [] => by show (0 : Rat) ≤ 0; grind
  | g :: gs => by
    have k := Rat.mul_nonneg h (sB_nn h gs)
    have : (0 : Rat) ≤ (g : Rat) := Rat.natCast_nonneg
    show 0 ≤ 3 * (g : Rat) + m * sB m gs
    grind
theorem nb_le {a : Int} {g : Nat} (h : Nat.ble a.natAbs g = true) : nb (a : Rat) (g : Rat) := nb_mono (nb_abs a) (Rat.natCast_le_natCast.mpr (Nat.le_of_ble_eq_true h))
theorem gX_bd {X0 X1 X2 n m Δ : Rat} (h0 : nb X0 Δ) (h1 : nb X1 Δ) (h2 : nb X2 Δ) (hn : nb n m) : ∀ {T : List (Int × Int × Int)} {gs : List Nat}, bd3 T gs = true → nb (gX X0 X1 X2 n T) (Δ * sB m gs)
  | [], [], _ => by
    show nb 0 (Δ * 0)
    constructor <;> grind
  | [], _ :: _, h => by cases h
  | _ :: _, [], h => by cases h
  | (a, b, d) :: l, g :: gs, h => by
    have h' : (Nat.ble (a + d).natAbs g && (Nat.ble (a - d).natAbs g && (Nat.ble b.natAbs g && bd3 l gs))) = true := h
    rw [Bool.and_eq_true, Bool.and_eq_true, Bool.and_eq_true] at h'
    obtain ⟨k1, k2, k3, k4⟩ := h'
    have ih := gX_bd h0 h1 h2 hn k4
    have q1 := nb_mul (nb_le k1) h0
    have q2 := nb_mul (nb_le k2) h1
    have q3 := nb_mul (nb_le k3) h2
    have q4 := nb_mul hn ih
    show nb (((a + d : Int) : Rat) * X0 + ((a - d : Int) : Rat) * X1 + (b : Rat) * X2 + n * gX X0 X1 X2 n l) (Δ * (3 * (g : Rat) + m * sB m gs))
    have q := nb_add (nb_add (nb_add q1 q2) q3) q4
    rw [show (g : Rat) * Δ + (g : Rat) * Δ + (g : Rat) * Δ + m * (Δ * sB m gs) = Δ * (3 * (g : Rat) + m * sB m gs) by grind] at q
    exact q
theorem gX_sub (X0 X1 X2 Y0 Y1 Y2 n : Rat) : ∀ T, gX X0 X1 X2 n T - gX Y0 Y1 Y2 n T = gX (X0 - Y0) (X1 - Y1) (X2 - Y2) n T
  | [] => by show (0 : Rat) - 0 = 0; grind
  | (a, b, d) :: l => by
    have ih := gX_sub X0 X1 X2 Y0 Y1 Y2 n l
    show ((a + d : Int) : Rat) * X0 + ((a - d : Int) : Rat) * X1 + (b : Rat) * X2 + n * gX X0 X1 X2 n l - (((a + d : Int) : Rat) * Y0 + ((a - d : Int) : Rat) * Y1 + (b : Rat) * Y2 + n * gX Y0 Y1 Y2 n l) = ((a + d : Int) : Rat) * (X0 - Y0) + ((a - d : Int) : Rat) * (X1 - Y1) + (b : Rat) * (X2 - Y2) + n * gX (X0 - Y0) (X1 - Y1) (X2 - Y2) n l
    rw [← ih]; grind
/-- the form by the turned point: c, s a direction, e along it, f across -/
theorem fF_turn (x y n : Int) (c s : Rat) : ∀ T, 2 * ((c * c + s * s) * (c * c + s * s)) * (fF x y n T : Rat) = (((x : Rat) * c + (y : Rat) * s) * ((x : Rat) * c + (y : Rat) * s)) * gX (c * c + s * s) (c * c - s * s) (2 * (c * s)) (n : Rat) T + 2 * (((x : Rat) * c + (y : Rat) * s) * ((x : Rat) * s - (y : Rat) * c)) * gX 0 (2 * (c * s)) (-(c * c - s * s)) (n : Rat) T + (((x : Rat) * s - (y : Rat) * c) * ((x : Rat) * s - (y : Rat) * c)) * gX (c * c + s * s) (-(c * c - s * s)) (-(2 * (c * s))) (n : Rat) T
  | [] => by
    show 2 * ((c * c + s * s) * (c * c + s * s)) * ((0 : Int) : Rat) = (((x : Rat) * c + (y : Rat) * s) * ((x : Rat) * c + (y : Rat) * s)) * 0 + 2 * (((x : Rat) * c + (y : Rat) * s) * ((x : Rat) * s - (y : Rat) * c)) * 0 + (((x : Rat) * s - (y : Rat) * c) * ((x : Rat) * s - (y : Rat) * c)) * 0
    have e : ((0 : Int) : Rat) = 0 := rfl
    rw [e]; grind
  | (a, b, d) :: l => by
    have ih := fF_turn x y n c s l
    have E : (fF x y n ((a, b, d) :: l) : Rat) = (a : Rat) * ((x : Rat) * (x : Rat)) + (b : Rat) * ((x : Rat) * (y : Rat)) + (d : Rat) * ((y : Rat) * (y : Rat)) + (n : Rat) * (fF x y n l : Rat) := by
      show ((a * (x * x) + b * (x * y) + d * (y * y) + n * fF x y n l : Int) : Rat) = _
      simp only [Rat.intCast_add, Rat.intCast_mul]
    rw [E]
    have g1 : ∀ X0 X1 X2 : Rat, gX X0 X1 X2 (n : Rat) ((a, b, d) :: l) = ((a : Rat) + (d : Rat)) * X0 + ((a : Rat) - (d : Rat)) * X1 + (b : Rat) * X2 + (n : Rat) * gX X0 X1 X2 (n : Rat) l := fun X0 X1 X2 => by
      show ((a + d : Int) : Rat) * X0 + ((a - d : Int) : Rat) * X1 + (b : Rat) * X2 + (n : Rat) * gX X0 X1 X2 (n : Rat) l = _
      rw [Rat.intCast_add, Rat.intCast_sub]
    rw [g1, g1, g1]
    generalize gX (c * c + s * s) (c * c - s * s) (2 * (c * s)) (n : Rat) l = G1 at *
    generalize gX 0 (2 * (c * s)) (-(c * c - s * s)) (n : Rat) l = G2 at *
    generalize gX (c * c + s * s) (-(c * c - s * s)) (-(2 * (c * s))) (n : Rat) l = G3 at *
    generalize (fF x y n l : Rat) = F at *
    generalize (x : Rat) = x at *
    generalize (y : Rat) = y at *
    generalize (n : Rat) = n at *
    generalize (a : Rat) = a at *
    generalize (b : Rat) = b at *
    generalize (d : Rat) = d at *
    have k : 2 * ((c * c + s * s) * (c * c + s * s)) * (n * F) = n * (2 * ((c * c + s * s) * (c * c + s * s)) * F) := by grind
    rw [show 2 * ((c * c + s * s) * (c * c + s * s)) * (a * (x * x) + b * (x * y) + d * (y * y) + n * F) = 2 * ((c * c + s * s) * (c * c + s * s)) * (a * (x * x) + b * (x * y) + d * (y * y)) + n * (2 * ((c * c + s * s) * (c * c + s * s)) * F) by grind, ih]
    have k2 : 2 * ((c * c + s * s) * (c * c + s * s)) * (a * (x * x) + b * (x * y) + d * (y * y)) = (x * c + y * s) * (x * c + y * s) * ((a + d) * (c * c + s * s) + (a - d) * (c * c - s * s) + b * (2 * (c * s))) + 2 * ((x * c + y * s) * (x * s - y * c)) * ((a + d) * 0 + (a - d) * (2 * (c * s)) + b * -(c * c - s * s)) + (x * s - y * c) * (x * s - y * c) * ((a + d) * (c * c + s * s) + (a - d) * -(c * c - s * s) + b * -(2 * (c * s))) := by grind
    rw [k2]
    generalize (a + d) * (c * c + s * s) + (a - d) * (c * c - s * s) + b * (2 * (c * s)) = Y1
    generalize (a + d) * 0 + (a - d) * (2 * (c * s)) + b * -(c * c - s * s) = Y2
    generalize (a + d) * (c * c + s * s) + (a - d) * -(c * c - s * s) + b * -(2 * (c * s)) = Y3
    grind
/-! odd forms -/
def sA : List (Int × Int × Int) → Int
  | [] => 0
  | (a, _, _) :: l => a + sA l
def sBb : List (Int × Int × Int) → Int
  | [] => 0
  | (_, b, _) :: l => b + sBb l
def sD : List (Int × Int × Int) → Int
  | [] => 0
  | (_, _, d) :: l => d + sD l
def hdT : List (Int × Int × Int) → Int × Int × Int
  | [] => (0, 0, 0)
  | t :: _ => t
theorem fF_one (x y : Int) : ∀ T, fF x y 1 T = sA T * (x * x) + sBb T * (x * y) + sD T * (y * y)
  | [] => by show (0 : Int) = 0 * (x * x) + 0 * (x * y) + 0 * (y * y); grind
  | (a, b, d) :: l => by
    have ih := fF_one x y l
    show a * (x * x) + b * (x * y) + d * (y * y) + 1 * fF x y 1 l = (a + sA l) * (x * x) + (b + sBb l) * (x * y) + (d + sD l) * (y * y)
    rw [ih]; grind
theorem fF_odd (x y n : Int) (hn : n % 2 = 1) : ∀ T, ∃ k, fF x y n T = fF x y 1 T + 2 * k
  | [] => ⟨0, rfl⟩
  | (a, b, d) :: l => by
    obtain ⟨k, hk⟩ := fF_odd x y n hn l
    obtain ⟨j, hj⟩ : ∃ j, n = 1 + 2 * j := ⟨n / 2, by omega⟩
    refine ⟨j * fF x y n l + k, ?_⟩
    show a * (x * x) + b * (x * y) + d * (y * y) + n * fF x y n l = a * (x * x) + b * (x * y) + d * (y * y) + 1 * fF x y 1 l + 2 * (j * fF x y n l + k)
    have e : n * fF x y n l = fF x y n l + 2 * (j * fF x y n l) := by rw [hj]; grind
    rw [e, Int.mul_add]
    generalize j * fF x y n l = J
    omega
theorem sq_par {x y a b d : Int} (ha : a % 2 = 1) (hb : b % 2 = 1) (hd : d % 2 = 1) (h : (a * (x * x) + b * (x * y) + d * (y * y)) % 2 = 0) : x % 2 = 0 ∧ y % 2 = 0 := by
  obtain ⟨a', ea⟩ : ∃ j, a = 1 + 2 * j := ⟨a / 2, by omega⟩
  obtain ⟨b', eb⟩ : ∃ j, b = 1 + 2 * j := ⟨b / 2, by omega⟩
  obtain ⟨d', ed⟩ : ∃ j, d = 1 + 2 * j := ⟨d / 2, by omega⟩
  obtain ⟨x', ex⟩ : ∃ j, x = x % 2 + 2 * j := ⟨x / 2, by omega⟩
  obtain ⟨y', ey⟩ : ∃ j, y = y % 2 + 2 * j := ⟨y / 2, by omega⟩
  have hx : x % 2 = 0 ∨ x % 2 = 1 := by omega
  have hy : y % 2 = 0 ∨ y % 2 = 1 := by omega
  have key : ∀ u v : Int, x = u + 2 * x' → y = v + 2 * y' → ∃ k, a * (x * x) + b * (x * y) + d * (y * y) = u * u + u * v + v * v + 2 * k := fun u v h1 h2 => by
    refine ⟨a' * (x * x) + b' * (x * y) + d' * (y * y) + (2 * (u * x') + 2 * (x' * x')) + (u * y' + x' * v + 2 * (x' * y')) + (2 * (v * y') + 2 * (y' * y')), ?_⟩
    subst ea; subst eb; subst ed
    have e1 : x * x = u * u + 2 * (2 * (u * x') + 2 * (x' * x')) := by rw [h1]; grind
    have e2 : x * y = u * v + 2 * (u * y' + x' * v + 2 * (x' * y')) := by rw [h1, h2]; grind
    have e3 : y * y = v * v + 2 * (2 * (v * y') + 2 * (y' * y')) := by rw [h2]; grind
    have m1 : (1 + 2 * a') * (x * x) = x * x + 2 * (a' * (x * x)) := by grind
    have m2 : (1 + 2 * b') * (x * y) = x * y + 2 * (b' * (x * y)) := by grind
    have m3 : (1 + 2 * d') * (y * y) = y * y + 2 * (d' * (y * y)) := by grind
    rw [m1, m2, m3]
    generalize a' * (x * x) = Z1
    generalize b' * (x * y) = Z2
    generalize d' * (y * y) = Z3
    omega
  rcases hx with hx | hx <;> rcases hy with hy | hy
  · exact ⟨hx, hy⟩
  · obtain ⟨k, hk⟩ := key 0 1 (by omega) (by omega)
    exfalso; omega
  · obtain ⟨k, hk⟩ := key 1 0 (by omega) (by omega)
    exfalso; omega
  · obtain ⟨k, hk⟩ := key 1 1 (by omega) (by omega)
    exfalso; omega
def oddT (T : List (Int × Int × Int)) : Bool := (decide ((hdT T).1 % 2 = 1) && (decide ((hdT T).2.1 % 2 = 1) && decide ((hdT T).2.2 % 2 = 1))) && (decide (sA T % 2 = 1) && (decide (sBb T % 2 = 1) && decide (sD T % 2 = 1)))
/-- an odd form vanishes at two even numbers alone -/
theorem fF_even {x y n : Int} {T : List (Int × Int × Int)} (hT : oddT T = true) (h : fF x y n T = 0) : x % 2 = 0 ∧ y % 2 = 0 := by
  unfold oddT at hT
  simp only [Bool.and_eq_true, decide_eq_true_eq] at hT
  obtain ⟨⟨h1, h2, h3⟩, h4, h5, h6⟩ := hT
  have hn : n % 2 = 0 ∨ n % 2 = 1 := by omega
  rcases hn with hn | hn
  · cases T with
    | nil => exact absurd h4 (by show ¬ (0 : Int) % 2 = 1; decide)
    | cons t l =>
      obtain ⟨a, b, d⟩ := t
      obtain ⟨j, hj⟩ : ∃ j, n = 2 * j := ⟨n / 2, by omega⟩
      have h' : a * (x * x) + b * (x * y) + d * (y * y) + n * fF x y n l = 0 := h
      have e : n * fF x y n l = 2 * (j * fF x y n l) := by rw [hj]; grind
      rw [e] at h'
      generalize j * fF x y n l = J at *
      refine sq_par (a := a) (b := b) (d := d) h1 h2 h3 ?_
      generalize a * (x * x) + b * (x * y) + d * (y * y) = Z at *
      omega
  · obtain ⟨k, hk⟩ := fF_odd x y n hn T
    rw [fF_one] at hk
    refine sq_par h4 h5 h6 ?_
    generalize sA T * (x * x) + sBb T * (x * y) + sD T * (y * y) = Z at *
    omega
