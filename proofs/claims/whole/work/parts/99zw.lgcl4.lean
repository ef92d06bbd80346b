/-! the class's logarithm: e to it -/
def ln2r : Rat := (lnn : Rat) / ((2 ^ 160 : Nat) : Rat)
theorem ln2_ok : nb (ee ln2r - 2) (1 / ((2 ^ 157 : Nat) : Rat)) := by
  have k := ee_cut (x := ln2r) (n := 60) (by decide +kernel) (by decide) (by decide +kernel)
  have h1 : nb (eS ln2r 60 - 2) (1 / ((2 ^ 158 : Nat) : Rat)) := by unfold nb; decide +kernel
  have h2 : eT ln2r 60 + 1 / ((2 ^ 158 : Nat) : Rat) ≤ 1 / ((2 ^ 157 : Nat) : Rat) := by decide +kernel
  generalize (1 / ((2 ^ 158 : Nat) : Rat) : Rat) = e8 at h1 h2
  generalize (1 / ((2 ^ 157 : Nat) : Rat) : Rat) = e7 at h2 ⊢
  generalize ee ln2r = A at k ⊢
  generalize eS ln2r 60 = B at k h1
  generalize eT ln2r 60 = C at k h2
  obtain ⟨a1, a2⟩ := k
  obtain ⟨b1, b2⟩ := h1
  constructor <;> grind
theorem ln2_bd : 0 ≤ ln2r ∧ ln2r ≤ 1 ∧ ((2 ^ 160 : Nat) : Rat) * ln2r = (lnn : Rat) ∧ 8 * t4 ≤ 1 / ((2 ^ 157 : Nat) : Rat) ∧ 1 / ((2 ^ 157 : Nat) : Rat) ≤ 1/1000 := by decide +kernel
theorem oE_32 : oE 32 + 1 ≤ 47 := by decide +kernel
def eta : Rat := 1 / ((2 ^ 150 : Nat) : Rat)
theorem eta_ok : 0 ≤ eta ∧ eta ≤ 1/1000 ∧ 10000000000000000 * t4 ≤ eta ∧ 5 * (1 / ((2 ^ 160 : Nat) : Rat)) ≤ eta ∧ 64 * (1 / ((2 ^ 157 : Nat) : Rat)) ≤ eta ∧ 94 * (1 / ((2 ^ 160 : Nat) : Rat)) + 94 * (1 / ((2 ^ 160 : Nat) : Rat)) * (94 * (1 / ((2 ^ 160 : Nat) : Rat))) ≤ eta ∧ 94 * (1 / ((2 ^ 160 : Nat) : Rat)) ≤ 1/2 ∧ 8 * t4 ≤ 1 / ((2 ^ 160 : Nat) : Rat) ∧ 0 ≤ 1 / ((2 ^ 160 : Nat) : Rat) ∧ ((2 ^ 160 : Nat) : Rat) * (1 / ((2 ^ 160 : Nat) : Rat)) = 1 := by decide +kernel
/-- the signed ratio -/
theorem lg_one {p q m R : Nat} {r : Rat} (p1 : 1 ≤ p) (q1 : 1 ≤ q) (c3 : 7 * q < 10 * p) (c4 : 5 * p ≤ 7 * q) (hm : m = ((p : Int) - (q : Int)).natAbs) (hR : R = m * 2 ^ 160 / (p + q)) (hr : ((2 ^ 160 : Nat) : Rat) * r = (R : Rat)) (r0 : 0 ≤ r) (r1 : r ≤ 3/17) : nb (ee ((lsg p q : Rat) * (2 * oS 1 r 400)) * (q : Rat) - (p : Rat)) (eta * (p : Rat)) := by
  obtain ⟨-, -, -, n5, -, -, -, nt, nu, nU⟩ := eta_ok
  have U0 : (0 : Rat) < ((2 ^ 160 : Nat) : Rat) := by decide +kernel
  have pr : (1 : Rat) ≤ (p : Rat) := by
    have : ((1 : Nat) : Rat) ≤ (p : Rat) := Rat.natCast_le_natCast.mpr p1
    simpa using this
  have qr : (1 : Rat) ≤ (q : Rat) := by
    have : ((1 : Nat) : Rat) ≤ (q : Rat) := Rat.natCast_le_natCast.mpr q1
    simpa using this
  have s0 : (0 : Rat) < (p : Rat) + (q : Rat) := by grind
  have d3 : 7 * (q : Rat) ≤ 10 * (p : Rat) := by
    have : ((7 * q : Nat) : Rat) ≤ ((10 * p : Nat) : Rat) := Rat.natCast_le_natCast.mpr (by omega)
    rw [Rat.natCast_mul, Rat.natCast_mul] at this
    simpa using this
  have d4 : 5 * (p : Rat) ≤ 7 * (q : Rat) := by
    have : ((5 * p : Nat) : Rat) ≤ ((7 * q : Nat) : Rat) := Rat.natCast_le_natCast.mpr c4
    rw [Rat.natCast_mul, Rat.natCast_mul] at this
    simpa using this
  obtain ⟨k1, k2⟩ := nd_le (m * 2 ^ 160) (p + q) (by omega)
  rw [← hR, Rat.natCast_mul m, Rat.natCast_add, ← hr] at k1 k2
  have hz : ((p : Rat) + (q : Rat)) * ((m : Rat) / ((p : Rat) + (q : Rat))) = (m : Rat) := by
    generalize (p : Rat) + (q : Rat) = s at *
    have : s ≠ 0 := by grind
    grind
  generalize (m : Rat) / ((p : Rat) + (q : Rat)) = z at hz
  have sU := Rat.mul_pos s0 U0
  have z1 : r ≤ z := by
    rw [← hz] at k1
    generalize ((2 ^ 160 : Nat) : Rat) = U at *
    generalize (p : Rat) + (q : Rat) = s at *
    exact mul_cancel_le sU (by grind)
  have z2 : z ≤ r + 1 / ((2 ^ 160 : Nat) : Rat) := by
    rw [← hz] at k2
    generalize (1 / ((2 ^ 160 : Nat) : Rat) : Rat) = u at *
    generalize ((2 ^ 160 : Nat) : Rat) = U at *
    generalize (p : Rat) + (q : Rat) = s at *
    have e : s * U * (r + u) = s * (U * r) + s * (U * u) := by grind
    refine mul_cancel_le sU ?_
    rw [e, nU]
    grind
  have lm := lg_main r0 (show r ≤ 1/3 by grind)
  have o0 := oS_nn (a := 1) rfl r0 400
  have ob := (oS_bd (a := 1) (Or.inl rfl) r0 (show r ≤ 1/3 by grind) 400).2
  have wb : nb (2 * oS 1 r 400) 1 := ⟨by grind, by grind⟩
  by_cases c : q ≤ p
  · have mr : (m : Rat) = (p : Rat) - (q : Rat) := by
      have : (((m : Nat) : Int) : Rat) = (((p : Int) - (q : Int) : Int) : Rat) := by
        congr 1; omega
      rw [Rat.intCast_sub] at this
      exact this
    have sg : lsg p q = 1 := if_pos c
    have e1 : ((1 : Int) : Rat) = 1 := rfl
    rw [sg, e1, show (1 : Rat) * (2 * oS 1 r 400) = 2 * oS 1 r 400 by grind]
    have k := lg_rat (lo := (q : Rat)) (hi := (p : Rat)) s0 r0 r1 nu z1 z2 lm (by rw [mr] at hz; grind) (by rw [mr] at hz; grind) nt
    refine nb_mono k ?_
    have x := Rat.mul_le_mul_of_nonneg_right n5 (show 0 ≤ (p : Rat) by grind)
    have y := Rat.mul_nonneg nu (show 0 ≤ (p : Rat) by grind)
    generalize (1 / ((2 ^ 160 : Nat) : Rat) : Rat) = u at *
    generalize eta = η at *
    grind
  · have mr : (m : Rat) = (q : Rat) - (p : Rat) := by
      have : (((m : Nat) : Int) : Rat) = (((q : Int) - (p : Int) : Int) : Rat) := by
        congr 1; omega
      rw [Rat.intCast_sub] at this
      exact this
    have sg : lsg p q = -1 := if_neg c
    have e1 : ((-1 : Int) : Rat) = -1 := by decide +kernel
    rw [sg, e1, show (-1 : Rat) * (2 * oS 1 r 400) = -(2 * oS 1 r 400) by grind]
    have k := lg_rat (lo := (p : Rat)) (hi := (q : Rat)) s0 r0 r1 nu z1 z2 lm (by rw [mr] at hz; grind) (by rw [mr] at hz; grind) nt
    have k2 := lg_rev (w := 2 * oS 1 r 400) (α := 1) rfl rfl wb (by decide +kernel) (by grind) nu nt (by grind) d3 k
    refine nb_mono k2 ?_
    exact Rat.mul_le_mul_of_nonneg_right n5 (show 0 ≤ (p : Rat) by grind)
/-- e to the class's logarithm of a / b is a / b -/
theorem log_true {ab be : Int64} {u : rk_U} {a b : Nat} (ea : un ab = a) (eb : un be = b) (a1 : 1 ≤ a) (a2 : a ≤ 1000000000000) (b1 : 1 ≤ b) (b2 : b ≤ 1000000000000) :
    okw (rk_log ab be u 0) 7 ∧ ∃ (S : Int) (v : Rat), (uv (rk_log ab be u 0) 7 : Int) = S % 2 ^ 224 ∧ ((2 ^ 160 : Nat) : Rat) * v = (S : Rat) ∧ nb v 47 ∧ nb (ee v * (b : Rat) - (a : Rat)) (4 * eta * (a : Rat)) ∧ (a = b → S = 0) := by
  obtain ⟨o, n1, n2, p, q, m, R, r, S1, c1, c2, hp, hq, c3, c4, c5, c6, hm, hR, hr, r0, r1, s1, s2, s3⟩ := log_val (u := u) ea eb a1 a2 b1 b2
  obtain ⟨h0, h1, h2, h3, h4, h5, h6, -, h8, h9⟩ := eta_ok
  obtain ⟨l0, l1, l2, l3, l4⟩ := ln2_bd
  have U0 : (0 : Rat) < ((2 ^ 160 : Nat) : Rat) := by decide +kernel
  have p1 : 1 ≤ p := by rw [hp]; exact Nat.mul_pos a1 (Nat.two_pow_pos _)
  have q1 : 1 ≤ q := by rw [hq]; exact Nat.mul_pos b1 (Nat.two_pow_pos _)
  have one := lg_one p1 q1 c3 c4 hm hR hr r0 r1
  have two := ee_dbl (n1 := n1) (n2 := n2) l0 l1 l3 l4 ln2_ok c1 c2
  have o46 := oE_32
  have sgb : nb (lsg p q : Rat) 1 := by
    unfold lsg
    split
    · have : ((1 : Int) : Rat) = 1 := rfl
      rw [this]; exact ⟨by decide +kernel, by decide +kernel⟩
    · have : ((-1 : Int) : Rat) = -1 := by decide +kernel
      rw [this]; exact ⟨by decide +kernel, by decide +kernel⟩
  have hv : ((2 ^ 160 : Nat) : Rat) * (((lsg p q * (2 * S1) + ((n1 : Int) - (n2 : Int)) * (lnn : Int) : Int) : Rat) / ((2 ^ 160 : Nat) : Rat)) = ((lsg p q * (2 * S1) + ((n1 : Int) - (n2 : Int)) * (lnn : Int) : Int) : Rat) := by
    generalize ((2 ^ 160 : Nat) : Rat) = U at *
    have : U ≠ 0 := by grind
    grind
  generalize ((lsg p q * (2 * S1) + ((n1 : Int) - (n2 : Int)) * (lnn : Int) : Int) : Rat) / ((2 ^ 160 : Nat) : Rat) = v at hv
  -- the rest
  have e3 : ((2 ^ 160 : Nat) : Rat) * (v - (lsg p q : Rat) * (2 * oS 1 r 400) - ((n1 : Rat) - (n2 : Rat)) * ln2r) = (lsg p q : Rat) * (2 * ((S1 : Rat) - ((2 ^ 160 : Nat) : Rat) * oS 1 r 400)) := by
    rw [Rat.intCast_add, Rat.intCast_mul, Rat.intCast_mul, Rat.intCast_mul, Rat.intCast_sub] at hv
    have i2 : ((2 : Int) : Rat) = 2 := by simp
    have i3 : (((n1 : Nat) : Int) : Rat) = (n1 : Rat) := rfl
    have i4 : (((n2 : Nat) : Int) : Rat) = (n2 : Rat) := rfl
    have i5 : (((lnn : Nat) : Int) : Rat) = (lnn : Rat) := rfl
    rw [i2, i3, i4, i5, ← l2] at hv
    generalize ((2 ^ 160 : Nat) : Rat) = U at *
    generalize (lsg p q : Rat) = σ at *
    generalize oS 1 r 400 = W at *
    generalize ln2r = l at *
    grind
  have x3 : nb (v - (lsg p q : Rat) * (2 * oS 1 r 400) - ((n1 : Rat) - (n2 : Rat)) * ln2r) (94 * (1 / ((2 ^ 160 : Nat) : Rat))) := by
    have s46 := nb_mul sgb (nb_mul (show nb (2 : Rat) 2 from ⟨by decide +kernel, by decide +kernel⟩) (nb_mono s1 o46))
    rw [← e3] at s46
    obtain ⟨y1, y2⟩ := s46
    generalize v - (lsg p q : Rat) * (2 * oS 1 r 400) - ((n1 : Rat) - (n2 : Rat)) * ln2r = X at *
    generalize (1 / ((2 ^ 160 : Nat) : Rat) : Rat) = w at *
    generalize ((2 ^ 160 : Nat) : Rat) = U at *
    constructor
    · exact mul_cancel_le U0 (by grind)
    · exact mul_cancel_le U0 (by grind)
  have three := ee_tiny x3 h6
  have o0 := oS_nn (a := 1) rfl r0 400
  have ob := (oS_bd (a := 1) (Or.inl rfl) r0 (show r ≤ 1/3 by grind) 400).2
  have y1 : nb ((lsg p q : Rat) * (2 * oS 1 r 400)) 1 := by
    have k := nb_mul sgb (show nb (2 * oS 1 r 400) 1 from ⟨by grind, by grind⟩)
    exact nb_mono k (by decide +kernel)
  have y2 : nb (((n1 : Rat) - (n2 : Rat)) * ln2r) 45 := by
    have a0 : (0 : Rat) ≤ (n1 : Rat) := Rat.natCast_nonneg
    have b0 : (0 : Rat) ≤ (n2 : Rat) := Rat.natCast_nonneg
    have a4 : (n1 : Rat) ≤ 40 := by
      have : (n1 : Rat) ≤ ((40 : Nat) : Rat) := Rat.natCast_le_natCast.mpr c1
      simpa using this
    have b4 : (n2 : Rat) ≤ 41 := by
      have : (n2 : Rat) ≤ ((41 : Nat) : Rat) := Rat.natCast_le_natCast.mpr c2
      simpa using this
    have k := nb_mul (show nb ((n1 : Rat) - (n2 : Rat)) 45 from ⟨by grind, by grind⟩) (show nb ln2r 1 from ⟨by grind, l1⟩)
    exact nb_mono k (by decide +kernel)
  have y3 := nb_mono x3 (show 94 * (1 / ((2 ^ 160 : Nat) : Rat)) ≤ 1 by generalize (1 / ((2 ^ 160 : Nat) : Rat) : Rat) = w at *; grind)
  have t10 : (0 : Rat) < 2 ^ n1 := rp_pos (by decide +kernel) n1
  have t20 : (0 : Rat) < 2 ^ n2 := rp_pos (by decide +kernel) n2
  have two' : nb (ee (((n1 : Rat) - (n2 : Rat)) * ln2r) * 2 ^ n2 - 2 ^ n1) (eta * 2 ^ n1) := nb_mono two (Rat.mul_le_mul_of_nonneg_right h4 (Rat.le_of_lt t10))
  have ar : (1 : Rat) ≤ (a : Rat) := by
    have : ((1 : Nat) : Rat) ≤ (a : Rat) := Rat.natCast_le_natCast.mpr a1
    simpa using this
  have br : (b : Rat) ≤ 1000000000000 := by
    have : (b : Rat) ≤ ((1000000000000 : Nat) : Rat) := Rat.natCast_le_natCast.mpr b2
    simpa using this
  have hpr : (p : Rat) = (a : Rat) * 2 ^ n2 := by
    rw [hp, Rat.natCast_mul, rp_cast]
    have : ((2 : Nat) : Rat) = 2 := by simp
    rw [this]
  have hqr : (q : Rat) = (b : Rat) * 2 ^ n1 := by
    rw [hq, Rat.natCast_mul, rp_cast]
    have : ((2 : Nat) : Rat) = 2 := by simp
    rw [this]
  have fin := lg_all (a := (a : Rat)) (b := (b : Rat)) (p := (p : Rat)) (q := (q : Rat)) (T1 := 2 ^ n1) (T2 := 2 ^ n2) ar Rat.natCast_nonneg br t10 t20 hpr hqr h0 h1 h2 one two' (nb_mono three h5) y1 y2 y3
  have ev : (lsg p q : Rat) * (2 * oS 1 r 400) + ((n1 : Rat) - (n2 : Rat)) * ln2r + (v - (lsg p q : Rat) * (2 * oS 1 r 400) - ((n1 : Rat) - (n2 : Rat)) * ln2r) = v := by
    generalize (lsg p q : Rat) * (2 * oS 1 r 400) = A
    generalize ((n1 : Rat) - (n2 : Rat)) * ln2r = B
    grind
  rw [ev] at fin
  have vb := nb_add (nb_add y1 y2) y3
  rw [ev] at vb
  refine ⟨o, _, v, s3, hv, nb_mono vb (by decide +kernel), fin, fun hab => ?_⟩
  have n12 : n1 = n2 := by
    rw [hp, hq, hab] at c3 c4
    rcases Nat.lt_trichotomy n1 n2 with h | h | h
    · exfalso
      have e : 2 ^ n2 = 2 ^ (n2 - n1 - 1) * 2 ^ n1 * 2 := by rw [← Nat.pow_add, ← Nat.pow_succ]; congr 1; omega
      have l : b * 2 ^ n1 * 2 ≤ b * 2 ^ n2 := by
        rw [e]
        have : 1 ≤ 2 ^ (n2 - n1 - 1) := Nat.one_le_two_pow
        have k := Nat.mul_le_mul_right (b * 2 ^ n1 * 2) this
        have e2 : b * (2 ^ (n2 - n1 - 1) * 2 ^ n1 * 2) = 2 ^ (n2 - n1 - 1) * (b * 2 ^ n1 * 2) := by grind
        rw [e2]
        omega
      have : 0 < b * 2 ^ n1 := Nat.mul_pos b1 (Nat.two_pow_pos _)
      omega
    · exact h
    · exfalso
      have e : 2 ^ n1 = 2 ^ (n1 - n2 - 1) * 2 ^ n2 * 2 := by rw [← Nat.pow_add, ← Nat.pow_succ]; congr 1; omega
      have l : b * 2 ^ n2 * 2 ≤ b * 2 ^ n1 := by
        rw [e]
        have : 1 ≤ 2 ^ (n1 - n2 - 1) := Nat.one_le_two_pow
        have k := Nat.mul_le_mul_right (b * 2 ^ n2 * 2) this
        have e2 : b * (2 ^ (n1 - n2 - 1) * 2 ^ n2 * 2) = 2 ^ (n1 - n2 - 1) * (b * 2 ^ n2 * 2) := by grind
        rw [e2]
        omega
      have : 0 < b * 2 ^ n2 := Nat.mul_pos b1 (Nat.two_pow_pos _)
      omega
  have pq : p = q := by rw [hp, hq, hab, n12]
  have m0 : m = 0 := by rw [hm, pq]; omega
  have R0 : R = 0 := by rw [hR, m0, Nat.zero_mul, Nat.zero_div]
  rw [s2 R0, n12]
  omega
