theorem et_800 : eT 1 800 ≤ 1 / ((2 ^ 300 : Nat) : Rat) := by decide +kernel
theorem gG_2 (b : Bool) : gg b ^ 4096 ≤ 1004105/1000000 := by
  have k := (pn_G1 b).1
  have h : (pn_G b : Rat) + 1 ≤ 1004105/1000000 * ((2 ^ 110 : Nat) : Rat) := by cases b <;> decide +kernel
  have p : (0 : Rat) < ((2 ^ 110 : Nat) : Rat) := by decide +kernel
  generalize ((2 ^ 110 : Nat) : Rat) = P at *
  exact mul_cancel_le p (by grind)
theorem bt_le (b : Bool) (x : Nat) (h : x ≤ 20000000) : bt b ^ x ≤ 15/8 := by
  by_cases c : bt b ≤ 1
  · have := rp_le1 (bt_0 b) c x; grind
  · have a := rp_up (show 1 ≤ bt b by grind) x (2 ^ 17 * 153 - x)
    rw [show x + (2 ^ 17 * 153 - x) = 2 ^ 17 * 153 by omega, rp_mul, gg_G] at a
    have k := rp_le (rp_nn (gg_0 b) 4096) (gG_2 b) 153
    have d : (1004105/1000000 : Rat) ^ 153 ≤ 15/8 := by decide +kernel
    exact Rat.le_trans a (Rat.le_trans k d)
/-- the sum at x dl against the power -/
theorem bt_pw (b : Bool) (x : Nat) (h : x ≤ 20000000) : nb (eS (sg b ((x : Rat) * dl)) 800 - bt b ^ x) (1 / ((2 ^ 270 : Nat) : Rat)) := by
  have xr : (x : Rat) ≤ 20000000 := by
    have : (x : Rat) ≤ ((20000000 : Nat) : Rat) := Rat.natCast_le_natCast.mpr h
    simpa using this
  have x0 : (0 : Rat) ≤ (x : Rat) := Rat.natCast_nonneg
  have hx : (x : Rat) * dl ≤ 1 := by
    have := Rat.mul_le_mul_of_nonneg_right xr dl_0
    have : (20000000 : Rat) * dl ≤ 1 := by decide +kernel
    grind
  have k := pw_near (b := b) (d := dl) (t := 1 / ((2 ^ 300 : Nat) : Rat)) (n := 799) dl_0 et_800 x hx
  have k' : nb (bt b ^ x - eS (sg b ((x : Rat) * dl)) 800) ((x : Rat) * (1 / ((2 ^ 300 : Nat) : Rat)) * bt false ^ x) := k
  have e : bt b ^ x - eS (sg b ((x : Rat) * dl)) 800 = -(eS (sg b ((x : Rat) * dl)) 800 - bt b ^ x) := by grind
  rw [e] at k'
  have k9 := nb_neg k'
  have e2 : - -(eS (sg b ((x : Rat) * dl)) 800 - bt b ^ x) = eS (sg b ((x : Rat) * dl)) 800 - bt b ^ x := by grind
  rw [e2] at k9
  refine nb_mono k9 ?_
  have f := bt_le false x h
  have f0 := rp_nn (bt_0 false) x
  have d : (20000000 : Rat) * (1 / ((2 ^ 300 : Nat) : Rat)) * (15/8) ≤ 1 / ((2 ^ 270 : Nat) : Rat) := by decide +kernel
  have p : (0 : Rat) ≤ 1 / ((2 ^ 300 : Nat) : Rat) := by decide +kernel
  generalize (1 / ((2 ^ 300 : Nat) : Rat) : Rat) = T at *
  generalize (1 / ((2 ^ 270 : Nat) : Rat) : Rat) = T2 at *
  have m1 := Rat.mul_le_mul_of_nonneg_right xr p
  have m2 := Rat.mul_le_mul_of_nonneg_right m1 f0
  have m3 := Rat.mul_le_mul_of_nonneg_right f (show (0 : Rat) ≤ 20000000 * T by grind)
  grind
/-- a sum that ends where its term is 3 units at most -/
theorem tl_near {b : Bool} {z U : Rat} {k : Nat} (hz : 0 ≤ z) (h1 : z ≤ 1) (hU : 0 ≤ U) (hk : k < 799) (ht : U * eT z (k + 1) ≤ 3) : nb (U * eS (sg b z) (k + 1) - U * eS (sg b z) 800) 3 := by
  have t := eS_tail hz h1 k (799 - k)
  have p := eT_nn hz (k + 1 + (799 - k))
  have m := eS_mono hz (799 - k) (k + 1)
  have e8 : k + 1 + (799 - k) = 800 := by omega
  rw [e8] at t p m
  have h : nb (eS z 800 - eS z (k + 1)) (eT z (k + 1)) := by constructor <;> grind
  have h9 : nb (eS (sg b z) 800 - eS (sg b z) (k + 1)) (eT z (k + 1)) := by
    cases b with
    | false => exact h
    | true =>
      have a := eS_ab hz (k + 1) (799 - k)
      rw [e8] at a
      exact nb_mono (show nb (eS (-z) 800 - eS (-z) (k + 1)) (eS z 800 - eS z (k + 1)) from ⟨a.1, a.2⟩) h.2
  have m9 := nb_mul h9 (show nb U U from ⟨by grind, by grind⟩)
  obtain ⟨a1, a2⟩ := m9
  constructor <;> grind
/-- the class's number -/
theorem cl_pw {b : Bool} {x k : Nat} {q : Nat → Nat} (h2 : x ≤ 20000000) (hk : k ≤ 200) (hz : ceT x 32000000 k = 0) (h0 : q 0 = ceS b x 32000000 k) (hs : ∀ j, j < 5 → q (j + 1) ≤ q j * q j / 2 ^ 160 ∧ q j * q j / 2 ^ 160 ≤ q (j + 1) + 4) : nb ((q 5 : Rat) - ((2 ^ 160 : Nat) : Rat) * gg b ^ x) 20000000000000 := by
  have xr : (x : Rat) ≤ 20000000 := by
    have : (x : Rat) ≤ ((20000000 : Nat) : Rat) := Rat.natCast_le_natCast.mpr h2
    simpa using this
  have x0 : (0 : Rat) ≤ (x : Rat) := Rat.natCast_nonneg
  have z0 : 0 ≤ (x : Rat) * dl := Rat.mul_nonneg x0 dl_0
  have z1 : (x : Rat) * dl ≤ 1 := by
    have := Rat.mul_le_mul_of_nonneg_right xr dl_0
    have : (20000000 : Rat) * dl ≤ 1 := by decide +kernel
    grind
  have hz9 : ((32000000 : Nat) : Rat) * ((x : Rat) * dl) = (x : Rat) := by
    have : ((32000000 : Nat) : Rat) * dl = 1 := by decide +kernel
    generalize ((32000000 : Nat) : Rat) = A at *
    grind
  have h8 : 8 * x ≤ 5 * 32000000 := by omega
  cases k with
  | zero => exact absurd hz (show ¬ (2 ^ 160 : Nat) = 0 by decide)
  | succ k =>
    have t := (ce_true (by decide) h8 hz9 z0 (k + 1)).2
    rw [hz] at t
    have e0 : ((0 : Nat) : Rat) = 0 := rfl
    rw [e0] at t
    have tl := tl_near (b := b) (z := (x : Rat) * dl) (U := ((2 ^ 160 : Nat) : Rat)) (k := k) z0 z1 Rat.natCast_nonneg (by omega) (by grind)
    have kr : ((k + 1 : Nat) : Rat) ≤ 200 := by
      have : ((k + 1 : Nat) : Rat) ≤ ((200 : Nat) : Rat) := Rat.natCast_le_natCast.mpr hk
      simpa using this
    have c : nb ((ceS b x 32000000 (k + 1) : Rat) - ((2 ^ 160 : Nat) : Rat) * eS (sg b ((x : Rat) * dl)) (k + 1)) 600 := by
      cases b with
      | false =>
        obtain ⟨u, v⟩ := ce_pos (by decide) h8 hz9 z0 (k + 1)
        show nb ((ceS false x 32000000 (k + 1) : Rat) - ((2 ^ 160 : Nat) : Rat) * eS ((x : Rat) * dl) (k + 1)) 600
        constructor <;> grind
      | true =>
        obtain ⟨u, v⟩ := ce_neg (by decide) h8 hz9 z0 (k + 1)
        show nb ((ceS true x 32000000 (k + 1) : Rat) - ((2 ^ 160 : Nat) : Rat) * eS (-((x : Rat) * dl)) (k + 1)) 600
        constructor <;> grind
    have bp := bt_pw b x h2
    have U1 : ((2 ^ 160 : Nat) : Rat) * (1 / ((2 ^ 270 : Nat) : Rat)) ≤ 1 := by decide +kernel
    have U2 : (2000000000 * (604 + 5) : Rat) ≤ ((2 ^ 160 : Nat) : Rat) := by decide +kernel
    have U0 : (0 : Rat) < ((2 ^ 160 : Nat) : Rat) := by decide +kernel
    have m := nb_mul (show nb ((2 ^ 160 : Nat) : Rat) ((2 ^ 160 : Nat) : Rat) from ⟨by grind, by grind⟩) bp
    have s := nb_add (nb_add c tl) m
    have E0 : nb ((q 0 : Rat) - ((2 ^ 160 : Nat) : Rat) * bt b ^ x) 604 := by
      rw [h0]
      have e : (ceS b x 32000000 (k + 1) : Rat) - ((2 ^ 160 : Nat) : Rat) * eS (sg b ((x : Rat) * dl)) (k + 1) + (((2 ^ 160 : Nat) : Rat) * eS (sg b ((x : Rat) * dl)) (k + 1) - ((2 ^ 160 : Nat) : Rat) * eS (sg b ((x : Rat) * dl)) 800) + ((2 ^ 160 : Nat) : Rat) * (eS (sg b ((x : Rat) * dl)) 800 - bt b ^ x) = (ceS b x 32000000 (k + 1) : Rat) - ((2 ^ 160 : Nat) : Rat) * bt b ^ x := by grind
      rw [e] at s
      exact nb_mono s (by grind)
    have f := sq5 (U := ((2 ^ 160 : Nat) : Rat)) (B := bt b ^ x) (c := 5) (E := 604) (q := fun j => (q j : Rat)) U0 (rp_nn (bt_0 b) x) (bt_le b x h2) E0 (by decide +kernel) (fun j hj => by
      obtain ⟨a1, a2⟩ := hs j hj
      obtain ⟨d1, d2⟩ := nd_le (q j * q j) (2 ^ 160) (by decide)
      rw [Rat.natCast_mul (q j) (q j)] at d1 d2
      have r1 : ((q (j + 1) : Nat) : Rat) ≤ ((q j * q j / 2 ^ 160 : Nat) : Rat) := Rat.natCast_le_natCast.mpr a1
      have r2 : ((q j * q j / 2 ^ 160 : Nat) : Rat) ≤ ((q (j + 1) + 4 : Nat) : Rat) := Rat.natCast_le_natCast.mpr a2
      rw [Rat.natCast_add] at r2
      have e4 : ((4 : Nat) : Rat) = 4 := by simp
      rw [e4] at r2
      generalize ((q j * q j / 2 ^ 160 : Nat) : Rat) = d at *
      generalize ((2 ^ 160 : Nat) : Rat) = P at *
      have m1 := Rat.mul_le_mul_of_nonneg_right r1 (Rat.le_of_lt U0)
      have m2 := Rat.mul_le_mul_of_nonneg_right r2 (Rat.le_of_lt U0)
      constructor <;> grind) U2
    have eg : (bt b ^ x) ^ 32 = gg b ^ x := by
      unfold gg
      rw [← rp_mul, ← rp_mul, Nat.mul_comm]
    rw [eg] at f
    exact nb_mono f (by decide +kernel)
