theorem oS_nn {a t : Rat} (ha : a = 1) (t0 : 0 ≤ t) : ∀ n, 0 ≤ oS a t n
  | 0 => t0
  | n + 1 => by
    have ih := oS_nn ha t0 n
    have p := rp_nn t0 (2 * n + 3)
    have k := rn_pos (2 * n + 2)
    have k' : (0 : Rat) < ((2 * n + 3 : Nat) : Rat) := k
    show 0 ≤ oS a t n + a ^ (n + 1) * (t ^ (2 * n + 3) / ((2 * n + 3 : Nat) : Rat))
    rw [ha, rp_one]
    rw [ha] at ih
    generalize ((2 * n + 3 : Nat) : Rat) = c at *
    generalize t ^ (2 * n + 3) = w at *
    have d : c * (w / c) = w := by
      have : c ≠ 0 := by grind
      grind
    have w0 : 0 ≤ w / c := mul_cancel_le k' (by grind)
    grind
theorem oS_bd {a t : Rat} (ha : a = 1 ∨ a = -1) (t0 : 0 ≤ t) (t1 : t ≤ 1/3) (n : Nat) : nb (oS a t n) (9/8 * t) := by
  have k := os_tail ha t0 t1 0 n
  rw [Nat.zero_add] at k
  have e0 : oS a t 0 = t := rfl
  have e1 : t ^ (2 * 0 + 1) = t := by rw [show 2 * 0 + 1 = 0 + 1 from rfl, Rat.pow_succ, Rat.pow_zero]; grind
  rw [e0, e1] at k
  have p := rp_nn t0 (2 * n + 1)
  obtain ⟨k1, k2⟩ := k
  generalize t ^ (2 * n + 1) = w at *
  constructor <;> grind
theorem eS_3 {z : Rat} (h0 : 0 ≤ z) (h1 : z ≤ 1) (n : Nat) : eS z (n + 1) ≤ 3 := by
  have t := eS_tail h0 h1 0 n
  rw [show 0 + 1 + n = n + 1 by omega, show 0 + 1 = 1 from rfl] at t
  have p := eT_nn h0 (n + 1)
  have e : eS z 1 = 1 + eT z 1 := rfl
  rw [e, eT_1] at t
  grind
theorem lg_num : (1/3 : Rat) ^ (2 * 400 + 2) * 3 + eT 1 800 ≤ t4 / 2 := by decide +kernel
/-- e to twice the odd sum of r is (1 + r) / (1 - r) -/
theorem lg_main {r : Rat} (r0 : 0 ≤ r) (r1 : r ≤ 1/3) : nb (ee (2 * oS 1 r 400) * (2 * (1 / (1 + r)) + -1) - 1) t4 := by
  have k := lg_exp (c := 1/3) (e := t4 / 2) (n := 400) (N := 799) (by decide +kernel) (fun t t0 t1 => by
    have o0 := oS_nn (a := 1) rfl t0 400
    have ob := (oS_bd (a := 1) (Or.inl rfl) t0 t1 400).2
    have z0 : 0 ≤ 2 * oS 1 t 400 := by grind
    have z1 : 2 * oS 1 t 400 ≤ 1 := by grind
    have a1 := eT_nn z0 (799 + 1)
    have a2 := eS_nn z0 799
    have a3 := eS_3 z0 z1 798
    have a4 := eT_mono z0 z1 (799 + 1)
    have a5 := rp_le t0 t1 (2 * 400 + 2)
    have a6 := rp_nn t0 (2 * 400 + 2)
    have num := lg_num
    have e8 : eT 1 (799 + 1) = eT 1 800 := rfl
    rw [e8] at a4
    rw [show 798 + 1 = 799 from rfl] at a3
    refine ⟨a1, a2, ?_⟩
    generalize eT (2 * oS 1 t 400) (799 + 1) = A at *
    generalize eS (2 * oS 1 t 400) 799 = B at *
    generalize t ^ (2 * 400 + 2) = C at *
    generalize (1/3 : Rat) ^ (2 * 400 + 2) = D at *
    generalize eT 1 800 = F at *
    have m1 := Rat.mul_le_mul_of_nonneg_right a5 a2
    have D0 : 0 ≤ D := by grind
    have m2 := Rat.mul_le_mul_of_nonneg_right a3 D0
    grind) r0 r1
  have t := t4_0
  have e : eS (2 * oS 1 r 400) (799 + 1) = ee (2 * oS 1 r 400) := rfl
  rw [e] at k
  refine nb_mono k ?_
  generalize t4 = T at *
  have m := Rat.mul_le_mul_of_nonneg_right r1 t
  grind
theorem ee_cut {x : Rat} {n : Nat} (hx : 0 ≤ x) (hn : n ≤ 800) (h2 : 2 * x ≤ ((n + 1 : Nat) : Rat)) : nb (ee x - eS x n) (eT x n) := by
  have tl := eS_tailn hx h2 (800 - n)
  have p := eT_nn hx (n + (800 - n))
  have m := eS_mono hx (800 - n) n
  have e8 : n + (800 - n) = 800 := by omega
  rw [e8] at tl p m
  unfold ee
  generalize eS x 800 = X at *
  generalize eT x 800 = Y at *
  constructor <;> grind
