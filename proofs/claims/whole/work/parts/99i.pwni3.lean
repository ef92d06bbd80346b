theorem rp_cast (m : Nat) : ∀ n : Nat, ((m ^ n : Nat) : Rat) = (m : Rat) ^ n
  | 0 => by rw [Rat.pow_zero]; rfl
  | n + 1 => by rw [Rat.pow_succ, Nat.pow_succ, Rat.natCast_mul, rp_cast m n]
theorem rp_prod (x y : Rat) : ∀ n : Nat, (x * y) ^ n = x ^ n * y ^ n
  | 0 => by rw [Rat.pow_zero, Rat.pow_zero, Rat.pow_zero]; grind
  | n + 1 => by rw [Rat.pow_succ, Rat.pow_succ, Rat.pow_succ, rp_prod x y n]; grind
theorem rp_one : ∀ n : Nat, (1 : Rat) ^ n = 1
  | 0 => Rat.pow_zero _
  | n + 1 => by rw [Rat.pow_succ, rp_one n]; grind
theorem rp_pos {x : Rat} (h : 0 < x) : ∀ n : Nat, 0 < x ^ n
  | 0 => by rw [Rat.pow_zero]; grind
  | n + 1 => by rw [Rat.pow_succ]; exact Rat.mul_pos (rp_pos h n) h
theorem rp_frac {m p K n : Nat} {x : Rat} (hp : 0 < p) (hx : (p : Rat) * x = (m : Rat)) (d : m ^ n ≤ K * p ^ n) : x ^ n ≤ (K : Rat) := by
  have f : ((m ^ n : Nat) : Rat) ≤ ((K * p ^ n : Nat) : Rat) := Rat.natCast_le_natCast.mpr d
  rw [Rat.natCast_mul, rp_cast, rp_cast, ← hx, rp_prod] at f
  have hpr : (0 : Rat) < (p : Rat) := by
    have : ((0 : Nat) : Rat) < (p : Rat) := Rat.natCast_lt_natCast.mpr hp
    simpa using this
  exact mul_cancel_le (rp_pos hpr n) (by grind)
theorem pn_d : (10042 ^ 4883 : Nat) ≤ 780000000 * 10000 ^ 4883 := by decide +kernel
theorem rp_top {x : Rat} {m p K n : Nat} (h1 : 1 ≤ x) (hp : 0 < p) (hx : (p : Rat) * x = (m : Rat)) (d : m ^ n ≤ K * p ^ n) (i : Nat) (h : i ≤ n) : x ^ i ≤ (K : Rat) := by
  have a := rp_up h1 i (n - i)
  rw [show i + (n - i) = n by omega] at a
  exact Rat.le_trans a (rp_frac hp hx d)
theorem pn_h9 (i : Nat) (h : i ≤ 4883) : (10042/10000 : Rat) ^ i ≤ 780000000 := by
  have k := rp_top (x := 10042/10000) (by decide +kernel) (by decide) (by decide +kernel) pn_d i h
  have e : ((780000000 : Nat) : Rat) = 780000000 := by simp
  rw [e] at k
  exact k
theorem pn_he (b : Bool) (i : Nat) : nb ((pn_hd b i : Rat) - 1000000000 * gg b * (gg b ^ 4096) ^ i * ((2 ^ 80 : Nat) : Rat)) (3 * ((i : Rat) + 1) * (10042/10000) ^ i) := by
  have hX : 0 ≤ 1000000000 * gg b * ((2 ^ 80 : Nat) : Rat) := Rat.mul_nonneg (Rat.mul_nonneg (by decide +kernel) (gg_0 b)) Rat.natCast_nonneg
  have hXa : 1000000000 * gg b * ((2 ^ 80 : Nat) : Rat) ≤ ((2 ^ 110 : Nat) : Rat) := by
    have k := (pn_s1 b).1
    have h : (pn_s b : Rat) + 1 ≤ ((2 ^ 110 : Nat) : Rat) := by cases b <;> decide +kernel
    generalize ((2 ^ 80 : Nat) : Rat) = P at *
    generalize ((2 ^ 110 : Nat) : Rat) = Q at *
    grind
  have hcH : (pn_G b : Rat) ≤ 10042/10000 * ((2 ^ 110 : Nat) : Rat) := by cases b <;> decide +kernel
  have k := hd_err (a := 2 ^ 110) (c := pn_G b) (s0 := pn_s b) (G := gg b ^ 4096) (H := 10042/10000) (by decide) (rp_nn (gg_0 b) 4096) (gG_1 b) (by decide +kernel) hX hXa (nb_mono (pn_s1 b) (by decide +kernel)) (pn_G1 b) hcH i
  have e : 1000000000 * gg b * (gg b ^ 4096) ^ i * ((2 ^ 80 : Nat) : Rat) = 1000000000 * gg b * ((2 ^ 80 : Nat) : Rat) * (gg b ^ 4096) ^ i := by grind
  rw [e]
  exact k
/-- every head's lanes are far from the whole numbers -/
theorem pn_all (b : Bool) (i : Nat) (hi : i < 4883) : pn_hd b i ≤ 2 ^ 140 ∧ lchk 192 159 (pn_row b) pn_one (pn_hd b i) = true := by
  have key : ∀ (b : Bool) (i0 m s : Nat), lall 192 159 (2 ^ 140) (2 ^ 110) (pn_G b) (pn_row b) pn_one m s = true → pn_hd b i0 = s → ∀ i, i0 ≤ i → i < i0 + m → pn_hd b i ≤ 2 ^ 140 ∧ lchk 192 159 (pn_row b) pn_one (pn_hd b i) = true := fun b i0 m s h e i h1 h2 => by
    have k := lall_ok m s h (i - i0) (by omega)
    have q := hd_add (a := 2 ^ 110) (c := pn_G b) (s0 := pn_s b) i0 (i - i0)
    rw [show i0 + (i - i0) = i by omega] at q
    have e' : hd (2 ^ 110) (pn_G b) (pn_s b) i0 = s := e
    rw [e'] at q
    rw [q] at k
    exact k
  cases b with
  | false =>
    by_cases c1 : i < 1000
    · exact key _ _ _ _ pn_p0 pn_p0h i (by omega) (by omega)
    by_cases c2 : i < 2000
    · exact key _ _ _ _ pn_p1 pn_p1h i (by omega) (by omega)
    by_cases c3 : i < 3000
    · exact key _ _ _ _ pn_p2 pn_p2h i (by omega) (by omega)
    by_cases c4 : i < 4000
    · exact key _ _ _ _ pn_p3 pn_p3h i (by omega) (by omega)
    exact key _ _ _ _ pn_p4 pn_p4h i (by omega) (by omega)
  | true =>
    by_cases c1 : i < 1000
    · exact key _ _ _ _ pn_n0 pn_n0h i (by omega) (by omega)
    by_cases c2 : i < 2000
    · exact key _ _ _ _ pn_n1 pn_n1h i (by omega) (by omega)
    by_cases c3 : i < 3000
    · exact key _ _ _ _ pn_n2 pn_n2h i (by omega) (by omega)
    by_cases c4 : i < 4000
    · exact key _ _ _ _ pn_n3 pn_n3h i (by omega) (by omega)
    exact key _ _ _ _ pn_n4 pn_n4h i (by omega) (by omega)
/-- no power of 1 .. 20000000 millionths, nor its inverse, is near a whole number of billionths -/
theorem pn_ni (b : Bool) (x : Nat) (h1 : 1 ≤ x) (h2 : x ≤ 20000000) (k : Nat) : ¬ nb (1000000000 * gg b ^ x - (k : Rat)) (1/68719476736) := by
  have hi : (x - 1) / 4096 < 4883 := by omega
  have hj : (x - 1) % 4096 < 4096 := Nat.mod_lt _ (by decide)
  have ex : x = 1 + (4096 * ((x - 1) / 4096) + (x - 1) % 4096) := by omega
  generalize (x - 1) / 4096 = i at *
  generalize (x - 1) % 4096 = j at *
  have eg : 1000000000 * gg b ^ x = 1000000000 * gg b * (gg b ^ 4096) ^ i * gg b ^ j := by
    rw [ex, rp_add, rp_add, rp_mul]
    have e1 : gg b ^ 1 = gg b := by rw [show (1 : Nat) = 0 + 1 from rfl, Rat.pow_succ, Rat.pow_zero]; grind
    rw [e1]
    generalize gg b ^ 4096 = G
    grind
  rw [eg]
  obtain ⟨p1, p2⟩ := pn_all b i hi
  have hr : pn_row b = pk 256 (lr (2 ^ 112) (pn_c b)) 4096 := lrow_eq
  have ho : pn_one = pk 256 (fun _ => 1) 4096 := (one_eq (by decide) 4096).symm
  rw [hr, ho] at p2
  have he := pn_he b i
  have i9 : (i : Rat) ≤ 4882 := by
    have : (i : Rat) ≤ ((4882 : Nat) : Rat) := Rat.natCast_le_natCast.mpr (by omega)
    simpa using this
  have i0 : (0 : Rat) ≤ (i : Rat) := Rat.natCast_nonneg
  have hh := pn_h9 i (by omega)
  have hE : 3 * ((i : Rat) + 1) * (10042/10000) ^ i ≤ 12000000000000 := by
    have h0 := rp_nn (show (0 : Rat) ≤ 10042/10000 by decide +kernel) i
    generalize (10042/10000 : Rat) ^ i = Z at *
    have m := Rat.mul_le_mul_of_nonneg_right (show (i : Rat) + 1 ≤ 4883 by grind) h0
    grind
  have gi := rp_le (rp_nn (gg_0 b) 4096) (gG_1 b) i
  have gn := rp_nn (rp_nn (gg_0 b) 4096) i
  have hX0 : 0 ≤ 1000000000 * gg b * (gg b ^ 4096) ^ i := Rat.mul_nonneg (Rat.mul_nonneg (by decide +kernel) (gg_0 b)) gn
  have hX9 : 1000000000 * gg b * (gg b ^ 4096) ^ i ≤ 800000000000000000 := by
    have g1 := gg_1 b
    have g0 := gg_0 b
    generalize (gg b ^ 4096) ^ i = Y at *
    generalize gg b = g at *
    have m1 := Rat.mul_le_mul_of_nonneg_right g1 gn
    have : Y ≤ 780000000 := by grind
    grind
  refine lane_ni (w := 256) (F := 192) (f := 159) (L := 4096) (A := 2 ^ 112) (B := 2 ^ 80) (c := pn_c b) (s := pn_hd b i) (sm := 2 ^ 140) (E := 12000000000000) (by decide) (gg_0 b) (gg_1 b) (by decide) (gg_2 b) (pn_c1 b) hX0 (nb_mono he hE) (by decide) (by decide) (by decide) (by decide) p1 (by decide +kernel) ?_ p2 j hj k
  have n1 : (12000000000000 * 3 * ((2 ^ 112 : Nat) : Rat) + 800000000000000000 * ((2 ^ 80 : Nat) : Rat) * 40000 + 1/68719476736 * (((2 ^ 112 : Nat) : Rat) * ((2 ^ 80 : Nat) : Rat)) : Rat) < ((2 ^ (159 - 1) : Nat) : Rat) := by decide +kernel
  have q := Rat.mul_le_mul_of_nonneg_right hX9 (show (0 : Rat) ≤ ((2 ^ 80 : Nat) : Rat) * 40000 by decide +kernel)
  generalize ((2 ^ 80 : Nat) : Rat) = P80 at *
  generalize ((2 ^ 112 : Nat) : Rat) = P112 at *
  generalize ((2 ^ (159 - 1) : Nat) : Rat) = P158 at *
  generalize 1000000000 * gg b * (gg b ^ 4096) ^ i = X at *
  grind
