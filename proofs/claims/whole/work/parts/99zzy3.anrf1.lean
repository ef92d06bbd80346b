/-! the reference's angleOf -/
def nT (B A C D : Int) : Nat → Int
  | 0 => C * B / D
  | n + 1 => nT B A C D n * A / D * (2 * ((n + 1 : Nat) : Int)) / (2 * ((n + 1 : Nat) : Int) + 1)
def nS (B A C D : Int) : Nat → Int
  | 0 => C * B / D
  | n + 1 => nS B A C D n + nT B A C D (n + 1)
theorem an_val {f : Nat} {a b : Int64} {g : Nat → Int64} (hf : f ≤ 18) (ha : 0 ≤ a.toInt) (hab : a.toInt ≤ b.toInt) (hb0 : 0 < b.toInt) (hb : b.toInt ≤ 1000000) {B A C D : Int} (hB : B = 1000000 ^ f) (hA : A = a.toInt * a.toInt) (hC : C = a.toInt * b.toInt) (hD : D = a.toInt * a.toInt + b.toInt * b.toInt) : ∀ n, n ≤ 800 →
    vv 1 (an_it f a b g n) 24 = nT B A C D n ∧ vv 0 (an_it f a b g n) 24 = nS B A C D n % 1000000 ^ 24 ∧ (∀ s, s ≠ 0 → s ≠ 1 → ok s g → ok s (an_it f a b g n) ∧ vv s (an_it f a b g n) 24 = vv s g 24)
  | 0, _ => by
    obtain ⟨s1, s2, s3, s4, s5, s6, s7⟩ := an_sq ha hab hb
    have s8 := Int.mul_pos hb0 hb0
    have f20 : f ≤ 20 := by omega
    have r1 : 0 ≤ (a * b).toInt := by omega
    have r2 : (a * b).toInt ≤ 1000000000000 := by omega
    have r3 : 0 < (a * a + b * b).toInt := by omega
    have r4 : (a * a + b * b).toInt ≤ 9000000000000 := by omega
    have rt := rat_ok (f := f) (r := 1) (v := a * b) (q := a * a + b * b) (g := g) f20 r1 r2 r3 r4
    have c := cp_ok (r := 0) (a := 1) (by decide) rt.1
    have E : an_it f a b g 0 = mr_cp 0 1 (mr_by 1 (a * a + b * b) (mr_wh f 1 (a * b) g)) := rfl
    have e : vv 1 (mr_by 1 (a * a + b * b) (mr_wh f 1 (a * b) g)) 24 = nT B A C D 0 := by
      rw [rt.2.2, s2, s3, hB, ← hC, ← hD, ← hB]; rfl
    rw [E]
    refine ⟨by rw [fr_vv c.2.1 (by decide), e], ?_, fun s n0 n1 os => ⟨fr_ok c.2.1 n0 (fr_ok rt.2.1 n1 os), by rw [fr_vv c.2.1 n0, fr_vv rt.2.1 n1]⟩⟩
    have l := vv_bd c.1 24 (Nat.le_refl _)
    rw [c.2.2, e] at l ⊢
    exact (Int.emod_eq_of_lt l.1 l.2).symm
  | n + 1, h => by
    have n8 : n ≤ 800 := by omega
    obtain ⟨i1, i2, i3⟩ := an_val (g := g) hf ha hab hb0 hb hB hA hC hD n n8
    obtain ⟨s1, s2, s3, s4, s5, s6, s7⟩ := an_sq ha hab hb
    have s8 := Int.mul_pos hb0 hb0
    have f20 : f ≤ 20 := by omega
    have a0 : 0 ≤ (a * a).toInt := by omega
    have a9 : (a * a).toInt ≤ 1000000000000 := by omega
    have r3 : 0 < (a * a + b * b).toInt := by omega
    have r4 : (a * a + b * b).toInt ≤ 9000000000000 := by omega
    have hq : (nI (n + 1)).toInt64.toInt = ((n + 1 : Nat) : Int) := nI_L (by omega)
    have q2 : (2 * (nI (n + 1)).toInt64).toInt = 2 * ((n + 1 : Nat) : Int) := by rw [tI_mul (by rw [hq, show (2 : Int64).toInt = 2 from rfl]; omega) (by rw [hq, show (2 : Int64).toInt = 2 from rfl]; omega), hq]; rfl
    have q3 : (2 * (nI (n + 1)).toInt64 + 1).toInt = 2 * ((n + 1 : Nat) : Int) + 1 := by rw [tI_add (by rw [q2, show (1 : Int64).toInt = 1 from rfl]; omega) (by rw [q2, show (1 : Int64).toInt = 1 from rfl]; omega), q2]; rfl
    have m0 : 0 ≤ (2 * (nI (n + 1)).toInt64).toInt := by rw [q2]; omega
    have m9 : (2 * (nI (n + 1)).toInt64).toInt ≤ 1000000000000 := by rw [q2]; omega
    have d0 : 0 < (2 * (nI (n + 1)).toInt64 + 1).toInt := by rw [q3]; omega
    have d9 : (2 * (nI (n + 1)).toInt64 + 1).toInt ≤ 9000000000000 := by rw [q3]; omega
    have k2a : (0 : Int) ≤ 2 * ((n + 1 : Nat) : Int) := by omega
    have k2b : 2 * ((n + 1 : Nat) : Int) ≤ 1000000000000 := by omega
    have s0D : 0 < a.toInt * a.toInt + b.toInt * b.toInt := by omega
    have sAD : 2 * (a.toInt * a.toInt) ≤ a.toInt * a.toInt + b.toInt * b.toInt := by omega
    have sA9 : a.toInt * a.toInt ≤ 1000000000000 := by omega
    have room : ∀ m : Int, 0 ≤ m → m ≤ 1000000000000 → ∀ x : Int, 0 ≤ x → x ≤ 1000000 ^ f → x * m < 1000000 ^ 24 := fun m hm hm2 x hx hx2 => by
      have p1 := wh_room (f := f) (v := m) f20 hm hm2
      have p2 := Int.mul_le_mul_of_nonneg_right hx2 hm
      rw [Int.mul_comm m] at p1
      exact Int.lt_of_le_of_lt p2 p1
    obtain ⟨⟨o0, o1, h1⟩, -⟩ := an_inv (g := g) hf ha hab hb0 hb n n8
    have T0 := vv_nn o1
    have t1 := tim_ok (r := 1) (m := a * a) o1 a0 a9
    have e1 := t1.2.2 (by rw [s1]; exact room _ s4 sA9 _ T0 h1)
    have d1 := by_ok (r := 1) (q := a * a + b * b) t1.1 r3 r4
    have e2 : vv 1 (mr_by 1 (a * a + b * b) (mr_tim 1 (a * a) (an_it f a b g n))) 24 = vv 1 (an_it f a b g n) 24 * (a.toInt * a.toInt) / (a.toInt * a.toInt + b.toInt * b.toInt) := by rw [d1.2.2, e1, s1, s3]
    have hh := dv_half (T := vv 1 (an_it f a b g n) 24) (s := a.toInt * a.toInt) (B := a.toInt * a.toInt + b.toInt * b.toInt) T0 s0D sAD
    have hh0 := Int.ediv_nonneg (Int.mul_nonneg T0 s4) (Int.le_of_lt s0D)
    have t2 := tim_ok (r := 1) (m := 2 * (nI (n + 1)).toInt64) d1.1 m0 m9
    have e3 := t2.2.2 (by rw [q2, e2]; exact room _ k2a k2b _ hh0 (le_half hh h1 hh0))
    have d2 := by_ok (r := 1) (q := 2 * (nI (n + 1)).toInt64 + 1) t2.1 d0 d9
    have o0' := fr_ok d2.2.1 (s := 0) (by decide) (fr_ok t2.2.1 (by decide) (fr_ok d1.2.1 (by decide) (fr_ok t1.2.1 (by decide) o0)))
    have ad := add_ok (r := 0) (a := 1) (by decide) o0' d2.1
    have am := add_mod (r := 0) (a := 1) (by decide) o0' d2.1
    have ER : an_it f a b g (n + 1) = mr_add 0 1 (mr_by 1 (2 * (nI (n + 1)).toInt64 + 1) (mr_tim 1 (2 * (nI (n + 1)).toInt64) (mr_by 1 (a * a + b * b) (mr_tim 1 (a * a) (an_it f a b g n))))) := rfl
    have v1 : vv 1 (mr_by 1 (2 * (nI (n + 1)).toInt64 + 1) (mr_tim 1 (2 * (nI (n + 1)).toInt64) (mr_by 1 (a * a + b * b) (mr_tim 1 (a * a) (an_it f a b g n))))) 24 = nT B A C D (n + 1) := by
      rw [d2.2.2, e3, e2, q2, q3, i1, ← hD, ← hA]; rfl
    have v0 : vv 0 (mr_by 1 (2 * (nI (n + 1)).toInt64 + 1) (mr_tim 1 (2 * (nI (n + 1)).toInt64) (mr_by 1 (a * a + b * b) (mr_tim 1 (a * a) (an_it f a b g n))))) 24 = nS B A C D n % 1000000 ^ 24 := by
      rw [fr_vv d2.2.1 (by decide), fr_vv t2.2.1 (by decide), fr_vv d1.2.1 (by decide), fr_vv t1.2.1 (by decide), i2]
    rw [v1, v0] at am
    rw [ER]
    refine ⟨by rw [fr_vv ad.2.1 (by decide), v1], by rw [am, Int.emod_add_emod]; rfl, fun s n0 n1 os => ?_⟩
    obtain ⟨j1, j2⟩ := i3 s n0 n1 os
    exact ⟨fr_ok ad.2.1 n0 (fr_ok d2.2.1 n1 (fr_ok t2.2.1 n1 (fr_ok d1.2.1 n1 (fr_ok t1.2.1 n1 j1)))), by rw [fr_vv ad.2.1 n0, fr_vv d2.2.1 n1, fr_vv t2.2.1 n1, fr_vv d1.2.1 n1, fr_vv t1.2.1 n1, j2]⟩
theorem nT_nn {B A C D : Int} (hB : 0 ≤ B) (hA : 0 ≤ A) (hC : 0 ≤ C) (hD : 0 < D) : ∀ n, 0 ≤ nT B A C D n
  | 0 => Int.ediv_nonneg (Int.mul_nonneg hC hB) (Int.le_of_lt hD)
  | n + 1 => Int.ediv_nonneg (Int.mul_nonneg (Int.ediv_nonneg (Int.mul_nonneg (nT_nn hB hA hC hD n) hA) (Int.le_of_lt hD)) (by omega)) (by omega)
theorem nS_nn {B A C D : Int} (hB : 0 ≤ B) (hA : 0 ≤ A) (hC : 0 ≤ C) (hD : 0 < D) : ∀ n, 0 ≤ nS B A C D n
  | 0 => nT_nn hB hA hC hD 0
  | n + 1 => by
    have a := nS_nn hB hA hC hD n
    have b := nT_nn hB hA hC hD (n + 1)
    show 0 ≤ nS B A C D n + nT B A C D (n + 1)
    omega
/-- the terms against Euler's -/
theorem nT_eu {B A C D : Int} {x : Rat} (hB : 0 ≤ B) (hA : 0 ≤ A) (hC : 0 ≤ C) (hD : 0 < D) (x0 : 0 ≤ x) (x1 : x ≤ 1) (hu : (D : Rat) * (x * x * w2 x) = (A : Rat)) (hy : (D : Rat) * (x * w2 x) = (C : Rat)) : ∀ n, ((nT B A C D n : Int) : Rat) ≤ (B : Rat) * eu x n ∧ (B : Rat) * eu x n ≤ ((nT B A C D n : Int) : Rat) + 4
  | 0 => by
    have hDr : (0 : Rat) < (D : Rat) := by
      have : ((0 : Int) : Rat) < (D : Rat) := Rat.intCast_lt_intCast.mpr hD
      simpa using this
    obtain ⟨d1, d2⟩ := rd_le (p := C * B) hD
    rw [Rat.intCast_mul, ← hy] at d1 d2
    show ((C * B / D : Int) : Rat) ≤ (B : Rat) * (x * w2 x) ∧ (B : Rat) * (x * w2 x) ≤ ((C * B / D : Int) : Rat) + 4
    generalize ((C * B / D : Int) : Rat) = q at *
    generalize x * w2 x = y at *
    exact ⟨mul_cancel_le hDr (by grind), mul_cancel_le hDr (by grind)⟩
  | n + 1 => by
    obtain ⟨i1, i2⟩ := nT_eu hB hA hC hD x0 x1 hu hy n
    have hDr : (0 : Rat) < (D : Rat) := by
      have : ((0 : Int) : Rat) < (D : Rat) := Rat.intCast_lt_intCast.mpr hD
      simpa using this
    have t0 : (0 : Rat) ≤ ((nT B A C D n : Int) : Rat) := by
      have : ((0 : Int) : Rat) ≤ ((nT B A C D n : Int) : Rat) := Rat.intCast_le_intCast.mpr (nT_nn hB hA hC hD n)
      simpa using this
    obtain ⟨u0, u1, -, -⟩ := u_half x0 x1
    obtain ⟨d1, d2⟩ := rd_le (p := nT B A C D n * A) hD
    rw [Rat.intCast_mul, ← hu] at d1 d2
    obtain ⟨f1, f2⟩ := rd_le (p := nT B A C D n * A / D * (2 * ((n + 1 : Nat) : Int))) (q := 2 * ((n + 1 : Nat) : Int) + 1) (by omega)
    rw [Rat.intCast_mul] at f1 f2
    obtain ⟨g1, g2, g3, g4⟩ := n_rel n
    have c2 : ((2 * ((n + 1 : Nat) : Int) : Int) : Rat) = ((2 * n + 2 : Nat) : Rat) := by
      have : (2 * ((n + 1 : Nat) : Int) : Int) = ((2 * n + 2 : Nat) : Int) := by omega
      rw [this]; rfl
    have c3 : ((2 * ((n + 1 : Nat) : Int) + 1 : Int) : Rat) = ((2 * n + 3 : Nat) : Rat) := by
      have : (2 * ((n + 1 : Nat) : Int) + 1 : Int) = ((2 * n + 3 : Nat) : Int) := by omega
      rw [this]; rfl
    rw [c2, c3] at f1 f2
    have p3 : ((2 * n + 3 : Nat) : Rat) ≠ 0 := by grind
    have q3 : (0 : Rat) < ((2 * n + 3 : Nat) : Rat) := by grind
    have e3 : ((2 * n + 3 : Nat) : Rat) * (((2 * n + 2 : Nat) : Rat) / ((2 * n + 3 : Nat) : Rat)) = ((2 * n + 2 : Nat) : Rat) := by grind
    have E : eu x (n + 1) = eu x n * (x * x * w2 x) * (((2 * n + 2 : Nat) : Rat) / ((2 * n + 3 : Nat) : Rat)) := rfl
    have E2 : nT B A C D (n + 1) = nT B A C D n * A / D * (2 * ((n + 1 : Nat) : Int)) / (2 * ((n + 1 : Nat) : Int) + 1) := rfl
    rw [E, E2]
    generalize ((nT B A C D n * A / D * (2 * ((n + 1 : Nat) : Int)) / (2 * ((n + 1 : Nat) : Int) + 1) : Int) : Rat) = q at *
    generalize ((nT B A C D n * A / D : Int) : Rat) = p at *
    generalize ((nT B A C D n : Int) : Rat) = T at *
    generalize ((2 * n + 2 : Nat) : Rat) / ((2 * n + 3 : Nat) : Rat) = k at *
    rw [← e3] at f1 f2
    generalize x * x * w2 x = u at *
    generalize eu x n = e at *
    generalize (B : Rat) = B' at *
    have k0 : 0 ≤ k := mul_cancel_le q3 (by grind)
    have k1 : k ≤ 1 := mul_cancel_le q3 (by grind)
    have pu1 : p ≤ T * u := mul_cancel_le hDr (by grind)
    have pu2 : T * u ≤ p + 1 := mul_cancel_le hDr (by grind)
    have qk1 : q ≤ p * k := mul_cancel_le q3 (by grind)
    have qk2 : p * k ≤ q + 1 := mul_cancel_le q3 (by grind)
    have m1 := Rat.mul_le_mul_of_nonneg_right i1 u0
    have m2 := Rat.mul_le_mul_of_nonneg_right i2 u0
    have m3 := Rat.mul_le_mul_of_nonneg_right pu1 k0
    have m4 := Rat.mul_le_mul_of_nonneg_right pu2 k0
    have m5 := Rat.mul_le_mul_of_nonneg_right m1 k0
    have m6 := Rat.mul_le_mul_of_nonneg_right m2 k0
    have m7 := Rat.mul_le_mul_of_nonneg_right u1 k0
    constructor <;> grind
theorem nS_eu {B A C D : Int} {x : Rat} (hB : 0 ≤ B) (hA : 0 ≤ A) (hC : 0 ≤ C) (hD : 0 < D) (x0 : 0 ≤ x) (x1 : x ≤ 1) (hu : (D : Rat) * (x * x * w2 x) = (A : Rat)) (hy : (D : Rat) * (x * w2 x) = (C : Rat)) : ∀ n, nb (((nS B A C D n : Int) : Rat) - (B : Rat) * euS x (n + 1)) (4 * ((n : Rat) + 1))
  | 0 => by
    obtain ⟨a1, a2⟩ := nT_eu hB hA hC hD x0 x1 hu hy 0
    show nb (((nT B A C D 0 : Int) : Rat) - (B : Rat) * (0 + eu x 0)) (4 * (((0 : Nat) : Rat) + 1))
    have e : ((0 : Nat) : Rat) = 0 := rfl
    rw [e]
    constructor <;> grind
  | n + 1 => by
    have ih := nS_eu hB hA hC hD x0 x1 hu hy n
    obtain ⟨a1, a2⟩ := nT_eu hB hA hC hD x0 x1 hu hy (n + 1)
    have en : ((n + 1 : Nat) : Rat) = (n : Rat) + 1 := by simp
    show nb (((nS B A C D n + nT B A C D (n + 1) : Int) : Rat) - (B : Rat) * (euS x (n + 1) + eu x (n + 1))) (4 * (((n + 1 : Nat) : Rat) + 1))
    rw [en, Rat.intCast_add]
    obtain ⟨b1, b2⟩ := ih
    constructor <;> grind
theorem eu_pw {x : Rat} (x0 : 0 ≤ x) (x1 : x ≤ 1) : ∀ n, 2 ^ n * eu x n ≤ 1
  | 0 => by
    obtain ⟨-, -, y0, y1⟩ := u_half x0 x1
    show 2 ^ 0 * (x * w2 x) ≤ 1
    rw [Rat.pow_zero]; grind
  | n + 1 => by
    have ih := eu_pw x0 x1 n
    have h := (eu_nn x0 x1 n).2
    have P0 : (0 : Rat) ≤ 2 ^ n := Rat.le_of_lt (rp_pos (by decide +kernel) n)
    rw [Rat.pow_succ]
    have m := Rat.mul_le_mul_of_nonneg_left h P0
    grind
theorem euS_tail {x : Rat} (x0 : 0 ≤ x) (x1 : x ≤ 1) (k : Nat) : ∀ j, euS x k ≤ euS x (k + j) ∧ euS x (k + j) + 2 * eu x (k + j) ≤ euS x k + 2 * eu x k
  | 0 => ⟨Rat.le_refl, Rat.le_refl⟩
  | j + 1 => by
    obtain ⟨i1, i2⟩ := euS_tail x0 x1 k j
    obtain ⟨h1, h2⟩ := eu_nn x0 x1 (k + j)
    show euS x k ≤ euS x (k + j) + eu x (k + j) ∧ euS x (k + j) + eu x (k + j) + 2 * eu x (k + j + 1) ≤ euS x k + 2 * eu x k
    exact ⟨by grind, by grind⟩
/-- what angleOf has at its end -/
theorem an_sum {f : Nat} {a b : Int64} {g : Nat → Int64} (hf : f = 11 ∨ f = 17) (ha : 0 ≤ a.toInt) (hab : a.toInt ≤ b.toInt) (hb0 : 0 < b.toInt) (hb : b.toInt ≤ 1000000) :
    ok 0 (anr f a b g) ∧ (∀ s, s ≠ 0 → s ≠ 1 → ok s g → ok s (anr f a b g) ∧ vv s (anr f a b g) 24 = vv s g 24) ∧ 0 ≤ vv 0 (anr f a b g) 24 ∧ ∃ x : Rat, (b.toInt : Rat) * x = (a.toInt : Rat) ∧ 0 ≤ x ∧ x ≤ 1 ∧ nb ((vv 0 (anr f a b g) 24 : Rat) - (((1000000 : Int) ^ f : Int) : Rat) * euS x 500) 1700 := by
  have f18 : f ≤ 18 := by omega
  have hB := pw_pos f
  have hBr : (0 : Rat) < (((1000000 : Int) ^ f : Int) : Rat) := by
    have : ((0 : Int) : Rat) < (((1000000 : Int) ^ f : Int) : Rat) := Rat.intCast_lt_intCast.mpr hB
    simpa using this
  have br : (0 : Rat) < (b.toInt : Rat) := by
    have : ((0 : Int) : Rat) < (b.toInt : Rat) := Rat.intCast_lt_intCast.mpr hb0
    simpa using this
  have ar : (0 : Rat) ≤ (a.toInt : Rat) := by
    have : ((0 : Int) : Rat) ≤ (a.toInt : Rat) := Rat.intCast_le_intCast.mpr ha
    simpa using this
  have abr : (a.toInt : Rat) ≤ (b.toInt : Rat) := Rat.intCast_le_intCast.mpr hab
  obtain ⟨x, hx⟩ : ∃ x, (b.toInt : Rat) * x = (a.toInt : Rat) := ⟨(a.toInt : Rat) / (b.toInt : Rat), by
    have : (b.toInt : Rat) ≠ 0 := by grind
    grind⟩
  have x0 : 0 ≤ x := mul_cancel_le br (by grind)
  have x1 : x ≤ 1 := mul_cancel_le br (by grind)
  obtain ⟨-, -, -, s4, s5, s6, s7⟩ := an_sq ha hab hb
  have s8 := Int.mul_pos hb0 hb0
  have s9 : 0 ≤ a.toInt * b.toInt := Int.mul_nonneg ha (Int.le_of_lt hb0)
  have sD : 0 < a.toInt * a.toInt + b.toInt * b.toInt := by omega
  have wi := w2_i x
  have hu : ((a.toInt * a.toInt + b.toInt * b.toInt : Int) : Rat) * (x * x * w2 x) = ((a.toInt * a.toInt : Int) : Rat) := by
    rw [Rat.intCast_add, Rat.intCast_mul, Rat.intCast_mul, ← hx]
    generalize (b.toInt : Rat) = b' at *
    generalize w2 x = w at *
    have : (b' * x * (b' * x) + b' * b') * (x * x * w) = b' * x * (b' * x) * ((1 + x * x) * w) := by grind
    rw [this, wi]; grind
  have hy : ((a.toInt * a.toInt + b.toInt * b.toInt : Int) : Rat) * (x * w2 x) = ((a.toInt * b.toInt : Int) : Rat) := by
    rw [Rat.intCast_add, Rat.intCast_mul, Rat.intCast_mul, Rat.intCast_mul, ← hx]
    generalize (b.toInt : Rat) = b' at *
    generalize w2 x = w at *
    have : (b' * x * (b' * x) + b' * b') * (x * w) = b' * x * b' * ((1 + x * x) * w) := by grind
    rw [this, wi]; grind
  have VAL := an_val (g := g) f18 ha hab hb0 hb rfl rfl rfl rfl
  have INV := an_inv (g := g) f18 ha hab hb0 hb
  have TE := nT_eu (Int.le_of_lt hB) s4 s9 sD x0 x1 hu hy
  have SE := nS_eu (Int.le_of_lt hB) s4 s9 sD x0 x1 hu hy
  have TN := nT_nn (Int.le_of_lt hB) s4 s9 sD
  have SN := nS_nn (Int.le_of_lt hB) s4 s9 sD
  obtain ⟨-, k1, k2⟩ := sk_ok (s := an_it f a b g) (N := 700) (by decide) (an_stop f18 ha hab hb0 hb)
  have E : anr f a b g = an_it f a b g (sk (an_it f a b g)) := rfl
  rw [E]
  generalize sk (an_it f a b g) = k at *
  generalize nT (1000000 ^ f) (a.toInt * a.toInt) (a.toInt * b.toInt) (a.toInt * a.toInt + b.toInt * b.toInt) = T at *
  generalize nS (1000000 ^ f) (a.toInt * a.toInt) (a.toInt * b.toInt) (a.toInt * a.toInt + b.toInt * b.toInt) = S at *
  have z4 : T 400 = 0 := by
    have p := eu_pw x0 x1 400
    have t := (TE 400).1
    have P0 : (0 : Rat) < 2 ^ 400 := rp_pos (by decide +kernel) 400
    have n : (((1000000 : Int) ^ f : Int) : Rat) < 2 ^ 400 := by rcases hf with h | h <;> subst h <;> decide +kernel
    have lt : (T 400 : Rat) < ((1 : Int) : Rat) := by
      have e1 : ((1 : Int) : Rat) = 1 := rfl
      rw [e1]
      have e0 := (eu_nn x0 x1 400).1
      generalize (2 : Rat) ^ 400 = P at *
      generalize eu x 400 = e at *
      generalize (((1000000 : Int) ^ f : Int) : Rat) = B at *
      have m := Rat.mul_le_mul_of_nonneg_right (Rat.le_of_lt n) e0
      refine Decidable.byContradiction (fun c => ?_)
      -- B e = 1 = P e would need B = P
      have c1 : 1 ≤ B * e := by grind
      have c2 : 1 ≤ P * e := by grind
      have c3 := Rat.mul_pos (show 0 < P - B by grind) (show 0 < e by
        refine Decidable.byContradiction (fun q => ?_)
        have : e = 0 := by grind
        rw [this] at c1
        grind)
      grind
    have := Rat.intCast_lt_intCast.mp lt
    have := TN 400
    omega
  have kk : k ≤ 400 := by
    by_cases c : k ≤ 400
    · exact c
    · exfalso
      have q := k1 400 (Nat.lt_of_not_le c)
      have w := (no_ok (INV 400 (by decide)).1.2.1).mpr (by rw [(VAL 400 (by decide)).1]; exact z4)
      exact w q
  have k8 : k ≤ 800 := Nat.le_trans kk (by decide)
  obtain ⟨⟨o0, o1, -⟩, -⟩ := INV k k8
  obtain ⟨v1, v2, v3⟩ := VAL k k8
  have Tk : T k = 0 := by rw [← v1]; exact (no_ok o1).mp k2
  have te := (TE k).2
  have e0 : (T k : Rat) = 0 := by rw [Tk]; rfl
  rw [e0] at te
  have se := SE k
  obtain ⟨tl1, tl2⟩ := euS_tail x0 x1 (k + 1) (499 - k)
  rw [show k + 1 + (499 - k) = 500 from by omega] at tl1 tl2
  have h2 := (eu_nn x0 x1 k).2
  have h5 := (eu_nn x0 x1 500).1
  have kr : (k : Rat) ≤ 400 := by
    have : (k : Rat) ≤ ((400 : Nat) : Rat) := Rat.natCast_le_natCast.mpr kk
    simpa using this
  have near : nb ((S k : Rat) - (((1000000 : Int) ^ f : Int) : Rat) * euS x 500) 1700 := by
    generalize (((1000000 : Int) ^ f : Int) : Rat) = B at *
    generalize euS x 500 = E5 at *
    generalize euS x (k + 1) = Ek at *
    generalize eu x (k + 1) = ek1 at *
    generalize eu x k = ek at *
    generalize eu x 500 = e5 at *
    have m1 := Rat.mul_le_mul_of_nonneg_left tl1 (Rat.le_of_lt hBr)
    have m2 := Rat.mul_le_mul_of_nonneg_left (show E5 ≤ Ek + ek by grind) (Rat.le_of_lt hBr)
    obtain ⟨y1, y2⟩ := se
    constructor <;> grind
  have Sb : S k < 1000000 ^ 24 := by
    have r : (S k : Rat) < (((1000000 : Int) ^ 24 : Int) : Rat) := by
      have n : (((1000000 : Int) ^ f : Int) : Rat) + 1700 < (((1000000 : Int) ^ 24 : Int) : Rat) := by rcases hf with h | h <;> subst h <;> decide +kernel
      have ub := (euS_bd x0 x1 500).2
      have m := Rat.mul_le_mul_of_nonneg_left (show euS x 500 ≤ 1 by grind) (Rat.le_of_lt hBr)
      have := near.2
      grind
    exact Rat.intCast_lt_intCast.mp r
  have eV : vv 0 (an_it f a b g k) 24 = S k := by rw [v2, Int.emod_eq_of_lt (SN k) Sb]
  refine ⟨o0, v3, by rw [eV]; exact SN k, x, hx, x0, x1, ?_⟩
  rw [eV]; exact near
