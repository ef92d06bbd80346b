/-- two numbers near one that is near no whole number have the same whole part -/
theorem fl_eq {V t : Rat} {a A : Nat} {b B : Int} (hA : 0 < A) (hB : 0 < B) (hb : 0 ≤ b) (h1 : nb ((a : Rat) - (A : Rat) * V) ((A : Rat) * t)) (h2 : nb ((b : Rat) - (B : Rat) * V) ((B : Rat) * t)) (ni : ∀ k : Nat, ¬ nb (V - (k : Rat)) t) : ((a / A : Nat) : Int) = b / B := by
  have hAr : (0 : Rat) < (A : Rat) := by
    have : ((0 : Nat) : Rat) < (A : Rat) := Rat.natCast_lt_natCast.mpr hA
    simpa using this
  have hBr : (0 : Rat) < (B : Rat) := by
    have : ((0 : Int) : Rat) < (B : Rat) := Rat.intCast_lt_intCast.mpr hB
    simpa using this
  obtain ⟨c1, c2⟩ := nd_le a A hA
  obtain ⟨d1, d2⟩ := rd_le (p := b) hB
  have hn : 0 ≤ b / B := Int.ediv_nonneg hb (Int.le_of_lt hB)
  obtain ⟨m, hm⟩ := Int.eq_ofNat_of_zero_le hn
  obtain ⟨a1, a2⟩ := h1
  obtain ⟨b1, b2⟩ := h2
  rw [hm] at d1 d2 ⊢
  have em : (((m : Nat) : Int) : Rat) = (m : Rat) := rfl
  rw [em] at d1 d2
  rcases Nat.lt_trichotomy (a / A) m with h | h | h
  · exfalso
    have r : ((a / A + 1 : Nat) : Rat) ≤ (m : Rat) := Rat.natCast_le_natCast.mpr h
    rw [Rat.natCast_add] at r
    have e1 : ((1 : Nat) : Rat) = 1 := rfl
    rw [e1] at r
    generalize ((a / A : Nat) : Rat) = n at *
    have q := Rat.mul_le_mul_of_nonneg_right r (Rat.le_of_lt hAr)
    refine ni m ⟨?_, ?_⟩
    · exact mul_cancel_le hBr (by grind)
    · exact mul_cancel_le hAr (by grind)
  · rw [h]
  · exfalso
    have r : ((m + 1 : Nat) : Rat) ≤ ((a / A : Nat) : Rat) := Rat.natCast_le_natCast.mpr h
    rw [Rat.natCast_add] at r
    have e1 : ((1 : Nat) : Rat) = 1 := rfl
    rw [e1] at r
    have q := Rat.mul_le_mul_of_nonneg_right r (Rat.le_of_lt hBr)
    refine ni (a / A) ⟨?_, ?_⟩
    · generalize ((a / A : Nat) : Rat) = n at *
      exact mul_cancel_le hAr (by grind)
    · generalize ((a / A : Nat) : Rat) = n at *
      exact mul_cancel_le hBr (by grind)
/-- power: the class's whole part is the reference's -/
theorem pw_fl {b : Int32} {x k k' : Nat} {q : Nat → Nat} {B st : Int} (h1 : 1 ≤ x) (h2 : x ≤ 20000000) (hk : k ≤ 200) (hz : ceT x 32000000 k = 0) (h0 : q 0 = ceS (decide (¬ b = 0)) x 32000000 k) (hs : ∀ j, j < 5 → q (j + 1) ≤ q j * q j / 2 ^ 160 ∧ q j * q j / 2 ^ 160 ≤ q (j + 1) + 4)
    (hB : 10 ^ 66 ≤ B) (hk' : k' ≤ 700) (hst : 64 * 1000000 * st = (x : Int) * B) (hz' : pwT B st k' = 0) (hn : 0 ≤ pwQ B (pwS b B st k') 6) : ((q 5 * 1000000000 / 2 ^ 160 : Nat) : Int) = pwQ B (pwS b B st k') 6 * 1000000000 / B := by
  have c := cl_pw h2 hk hz h0 hs
  have r := rf_pw (b := b) h2 hB hk' hst hz'
  have n := pn_ni (decide (¬ b = 0)) x h1 h2
  generalize decide (¬ b = 0) = bb at *
  have hB0 : 0 < B := Int.lt_of_lt_of_le (by decide) hB
  have hBr : (0 : Rat) < (B : Rat) := by
    have : ((0 : Int) : Rat) < (B : Rat) := Rat.intCast_lt_intCast.mpr hB0
    simpa using this
  refine fl_eq (V := 1000000000 * gg bb ^ x) (t := 1/68719476736) (by decide) hB0 (Int.mul_nonneg hn (by decide)) ?_ ?_ n
  · rw [Rat.natCast_mul]
    have e : ((1000000000 : Nat) : Rat) = 1000000000 := by simp
    rw [e]
    have d : (20000000000000 * 1000000000 : Rat) ≤ ((2 ^ 160 : Nat) : Rat) * (1/68719476736) := by decide +kernel
    generalize ((2 ^ 160 : Nat) : Rat) = P at *
    obtain ⟨u, v⟩ := c
    constructor <;> grind
  · rw [Rat.intCast_mul]
    have e : ((1000000000 : Int) : Rat) = 1000000000 := by simp
    rw [e]
    have d : 1 / ((2 ^ 160 : Nat) : Rat) * 1000000000 ≤ 1/68719476736 := by decide +kernel
    generalize (1 / ((2 ^ 160 : Nat) : Rat) : Rat) = P at *
    have m := Rat.mul_le_mul_of_nonneg_right d (Rat.le_of_lt hBr)
    obtain ⟨u, v⟩ := r
    generalize (B : Rat) = β at *
    constructor <;> grind
