/-! the reference's terms and sum against the true ones -/
theorem rd_le {p q : Int} (hq : 0 < q) : ((q : Int) : Rat) * ((p / q : Int) : Rat) ≤ (p : Rat) ∧ (p : Rat) ≤ ((q : Int) : Rat) * ((p / q : Int) : Rat) + (q : Rat) := by
  have h1 := Int.mul_ediv_self_le (x := p) (k := q) (by omega)
  have h2 := Int.lt_mul_ediv_self_add (x := p) (k := q) hq
  have r1 : ((q * (p / q) : Int) : Rat) ≤ (p : Rat) := Rat.intCast_le_intCast.mpr h1
  have r2 : (p : Rat) ≤ ((q * (p / q) + q : Int) : Rat) := Rat.intCast_le_intCast.mpr (Int.le_of_lt h2)
  rw [Rat.intCast_mul] at r1
  rw [Rat.intCast_add, Rat.intCast_mul] at r2
  exact ⟨r1, r2⟩
theorem pw_true {B st : Int} {w : Rat} (hB : 0 < B) (hs : 0 ≤ st) (h3 : 3 * st ≤ B) (hw : (B : Rat) * w = (st : Rat)) (hw0 : 0 ≤ w) : ∀ n, ((pwT B st n : Int) : Rat) ≤ (B : Rat) * eT w n ∧ (B : Rat) * eT w n ≤ ((pwT B st n : Int) : Rat) + 3
  | 0 => by
    have e : ((pwT B st 0 : Int) : Rat) = (B : Rat) := rfl
    have e0 : eT w 0 = 1 := rfl
    rw [e, e0]
    generalize (B : Rat) = A at *
    constructor <;> grind
  | n + 1 => by
    obtain ⟨i1, i2⟩ := pw_true hB hs h3 hw hw0 n
    have et := eT_s w n
    have hn := rn_pos n
    have hBr : (0 : Rat) < (B : Rat) := by
      have : ((0 : Int) : Rat) < (B : Rat) := Rat.intCast_lt_intCast.mpr hB
      simpa using this
    have E : pwT B st (n + 1) = pwT B st n * st / B / ((n + 1 : Nat) : Int) := rfl
    have c1 := rd_le (p := pwT B st n * st) hB
    have c2 := rd_le (p := pwT B st n * st / B) (q := ((n + 1 : Nat) : Int)) (by omega)
    rw [← E] at c2
    rw [Rat.intCast_mul] at c1
    have ek : (((n + 1 : Nat) : Int) : Rat) = ((n + 1 : Nat) : Rat) := rfl
    rw [ek] at c2
    have hst : (0 : Rat) ≤ (st : Rat) := by
      have : ((0 : Int) : Rat) ≤ (st : Rat) := Rat.intCast_le_intCast.mpr hs
      simpa using this
    have h3r : 3 * (st : Rat) ≤ (B : Rat) := by
      have : ((3 * st : Int) : Rat) ≤ (B : Rat) := Rat.intCast_le_intCast.mpr h3
      rw [Rat.intCast_mul] at this
      simpa using this
    have h1n : (1 : Rat) ≤ ((n + 1 : Nat) : Rat) := by
      have e : ((n + 1 : Nat) : Rat) = (n : Rat) + 1 := by simp
      have : (0 : Rat) ≤ (n : Rat) := Rat.natCast_nonneg
      grind
    have u1 := Rat.mul_le_mul_of_nonneg_right i1 hst
    have u2 := Rat.mul_le_mul_of_nonneg_right i2 hst
    have key : ((n + 1 : Nat) : Rat) * ((B : Rat) * ((B : Rat) * eT w (n + 1))) = (st : Rat) * ((B : Rat) * eT w n) := by
      rw [← hw]
      generalize (B : Rat) = A at *
      grind
    have hm := Rat.mul_pos hn hBr
    have u3 := Rat.mul_le_mul_of_nonneg_right h1n (Rat.le_of_lt hBr)
    generalize ((pwT B st n * st / B : Int) : Rat) = d at *
    generalize ((pwT B st (n + 1) : Int) : Rat) = T' at *
    generalize ((pwT B st n : Int) : Rat) = T at *
    have v1 := Rat.mul_le_mul_of_nonneg_right c2.1 (Rat.le_of_lt hBr)
    have v2 := Rat.mul_le_mul_of_nonneg_right c2.2 (Rat.le_of_lt hBr)
    generalize (B : Rat) * eT w (n + 1) = X at *
    generalize (B : Rat) * eT w n = Y at *
    generalize ((n + 1 : Nat) : Rat) = k at *
    generalize (B : Rat) = A at *
    generalize (st : Rat) = q at *
    constructor
    · exact mul_cancel_le hm (by grind)
    · exact mul_cancel_le hm (by grind)
