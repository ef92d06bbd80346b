/-- the sum at a point between 0 and 5/8, either sign: between 0 and 15/8 -/
theorem eS_bd {b : Bool} {z : Rat} (hz : 0 ≤ z) (h1 : z ≤ 5/8) : 0 ≤ eS (sg b z) 800 ∧ eS (sg b z) 800 ≤ 15/8 := by
  have m := eS_mono hz 798 2
  have t := eS_tail hz (show z ≤ 1 by grind) 4 795
  rw [show 4 + 1 + 795 = 800 from rfl, show 4 + 1 = 5 from rfl] at t
  have p := eT_nn hz 800
  have t1 := eT_s z 0
  have t2 := eT_s z 1
  have t3 := eT_s z 2
  have t4 := eT_s z 3
  have t5 := eT_s z 4
  have e0 : eT z 0 = 1 := rfl
  have c1 : ((0 + 1 : Nat) : Rat) = 1 := rfl
  have c2 : ((1 + 1 : Nat) : Rat) = 2 := by decide +kernel
  have c3 : ((2 + 1 : Nat) : Rat) = 3 := by decide +kernel
  have c4 : ((3 + 1 : Nat) : Rat) = 4 := by decide +kernel
  have c5 : ((4 + 1 : Nat) : Rat) = 5 := by decide +kernel
  rw [c1, e0] at t1
  rw [c2] at t2
  rw [c3] at t3
  rw [c4] at t4
  rw [c5] at t5
  have u1 : eT z (0 + 1) ≤ 5/8 := by grind
  have n1 := eT_nn hz (0 + 1)
  have n2 := eT_nn hz (1 + 1)
  have n3 := eT_nn hz (2 + 1)
  have n4 := eT_nn hz (3 + 1)
  have u2 : eT z (1 + 1) ≤ 25/128 := by
    have a := Rat.mul_le_mul_of_nonneg_right h1 n1
    grind
  have u3 : eT z (2 + 1) ≤ 125/3072 := by
    have a := Rat.mul_le_mul_of_nonneg_right h1 n2
    grind
  have u4 : eT z (3 + 1) ≤ 625/98304 := by
    have a := Rat.mul_le_mul_of_nonneg_right h1 n3
    grind
  have u5 : eT z (4 + 1) ≤ 3125/3932160 := by
    have a := Rat.mul_le_mul_of_nonneg_right h1 n4
    grind
  have s5 : eS z 5 = 1 + eT z (0 + 1) + eT z (1 + 1) + eT z (2 + 1) + eT z (3 + 1) + eT z (4 + 1) := rfl
  have hS : eS z 800 ≤ 15/8 := by
    have e5 : eT z 5 = eT z (4 + 1) := rfl
    rw [s5, e5] at t
    grind
  cases b with
  | false => exact ⟨eS_nn hz 800, hS⟩
  | true =>
    show 0 ≤ eS (-z) 800 ∧ eS (-z) 800 ≤ 15/8
    have a := eS_ab hz 1 799
    rw [show 1 + 799 = 800 from rfl] at a
    have m1 := eS_mono hz 799 1
    have s1 : eS z 1 = 1 + eT z (0 + 1) := rfl
    have s1' : eS (-z) 1 = 1 + eT (-z) (0 + 1) := rfl
    have g := eT_neg z (0 + 1)
    rw [if_pos (by decide)] at g
    rw [g] at s1'
    have e5 : eT z 5 = eT z (4 + 1) := rfl
    rw [s5, e5] at t
    obtain ⟨a1, a2⟩ := a
    constructor <;> grind
/-- the class's number for any exponent a / D -/
theorem cl_gen {b : Bool} {a D k : Nat} {z : Rat} {q : Nat → Nat} (hD : 0 < D) (h8 : 8 * a ≤ 5 * D) (hz : (D : Rat) * z = (a : Rat)) (z0 : 0 ≤ z) (hk : k ≤ 200) (hT : ceT a D k = 0) (h0 : q 0 = ceS b a D k) (hs : ∀ j, j < 5 → q (j + 1) ≤ q j * q j / 2 ^ 160 ∧ q j * q j / 2 ^ 160 ≤ q (j + 1) + 4) : nb ((q 5 : Rat) - ((2 ^ 160 : Nat) : Rat) * eS (sg b z) 800 ^ 32) 20000000000000 := by
  have hDr : (0 : Rat) < (D : Rat) := by
    have : ((0 : Nat) : Rat) < (D : Rat) := Rat.natCast_lt_natCast.mpr hD
    simpa using this
  have z58 : z ≤ 5/8 := by
    have r3 : ((8 * a : Nat) : Rat) ≤ ((5 * D : Nat) : Rat) := Rat.natCast_le_natCast.mpr h8
    rw [Rat.natCast_mul, Rat.natCast_mul] at r3
    have c8 : ((8 : Nat) : Rat) = 8 := by simp
    have c5 : ((5 : Nat) : Rat) = 5 := by simp
    rw [c8, c5, ← hz] at r3
    exact mul_cancel_le hDr (by grind)
  have z1 : z ≤ 1 := by grind
  obtain ⟨y0, y1⟩ := eS_bd (b := b) z0 z58
  cases k with
  | zero => exact absurd hT (show ¬ (2 ^ 160 : Nat) = 0 by decide)
  | succ k =>
    have t := (ce_true hD h8 hz z0 (k + 1)).2
    rw [hT] at t
    have e0 : ((0 : Nat) : Rat) = 0 := rfl
    rw [e0] at t
    have tl := tl_near (b := b) (z := z) (U := ((2 ^ 160 : Nat) : Rat)) (k := k) z0 z1 Rat.natCast_nonneg (by omega) (by grind)
    have kr : ((k + 1 : Nat) : Rat) ≤ 200 := by
      have : ((k + 1 : Nat) : Rat) ≤ ((200 : Nat) : Rat) := Rat.natCast_le_natCast.mpr hk
      simpa using this
    have c : nb ((ceS b a D (k + 1) : Rat) - ((2 ^ 160 : Nat) : Rat) * eS (sg b z) (k + 1)) 600 := by
      cases b with
      | false =>
        obtain ⟨u, v⟩ := ce_pos hD h8 hz z0 (k + 1)
        show nb ((ceS false a D (k + 1) : Rat) - ((2 ^ 160 : Nat) : Rat) * eS z (k + 1)) 600
        constructor <;> grind
      | true =>
        obtain ⟨u, v⟩ := ce_neg hD h8 hz z0 (k + 1)
        show nb ((ceS true a D (k + 1) : Rat) - ((2 ^ 160 : Nat) : Rat) * eS (-z) (k + 1)) 600
        constructor <;> grind
    have U2 : (2000000000 * (603 + 5) : Rat) ≤ ((2 ^ 160 : Nat) : Rat) := by decide +kernel
    have U0 : (0 : Rat) < ((2 ^ 160 : Nat) : Rat) := by decide +kernel
    have s := nb_add c tl
    have E0 : nb ((q 0 : Rat) - ((2 ^ 160 : Nat) : Rat) * eS (sg b z) 800) 603 := by
      rw [h0]
      generalize eS (sg b z) 800 = Y at *
      generalize eS (sg b z) (k + 1) = Y' at *
      generalize ((2 ^ 160 : Nat) : Rat) = P at *
      have e : (ceS b a D (k + 1) : Rat) - P * Y' + (P * Y' - P * Y) = (ceS b a D (k + 1) : Rat) - P * Y := by grind
      rw [e] at s
      exact nb_mono s (by grind)
    have f := sq5 (U := ((2 ^ 160 : Nat) : Rat)) (B := eS (sg b z) 800) (c := 5) (E := 603) (q := fun j => (q j : Rat)) U0 y0 y1 E0 (by decide +kernel) (fun j hj => by
      obtain ⟨a1, a2⟩ := hs j hj
      obtain ⟨d1, d2⟩ := nd_le (q j * q j) (2 ^ 160) (by decide)
      rw [Rat.natCast_mul (q j) (q j)] at d1 d2
      have r1 : ((q (j + 1) : Nat) : Rat) ≤ ((q j * q j / 2 ^ 160 : Nat) : Rat) := Rat.natCast_le_natCast.mpr a1
      have r2 : ((q j * q j / 2 ^ 160 : Nat) : Rat) ≤ ((q (j + 1) + 4 : Nat) : Rat) := Rat.natCast_le_natCast.mpr a2
      rw [Rat.natCast_add] at r2
      have e4 : ((4 : Nat) : Rat) = 4 := by simp
      rw [e4] at r2
      generalize ((q j * q j / 2 ^ 160 : Nat) : Rat) = d at *
      generalize ((2 ^ 160 : Nat) : Rat) = P at *
      have m1 := Rat.mul_le_mul_of_nonneg_right r1 (Rat.le_of_lt U0)
      have m2 := Rat.mul_le_mul_of_nonneg_right r2 (Rat.le_of_lt U0)
      constructor <;> grind) U2
    exact nb_mono f (by decide +kernel)
/-- the reference's number for any exponent: T is the truth of the first square -/
theorem rf_gen {b : Int32} {k : Nat} {B st : Int} {w T : Rat} (hB : 10 ^ 66 ≤ B) (hk : k ≤ 700) (hs0 : 0 ≤ st) (h3 : 3 * st ≤ B) (hw : (B : Rat) * w = (st : Rat)) (w0 : 0 ≤ w) (w1 : w ≤ 1/3) (hz : pwT B st k = 0) (hT0 : 0 ≤ T) (hT : T ≤ 15/8) (y2 : nb (eS (sg (decide (¬ b = 0)) w) 800 * eS (sg (decide (¬ b = 0)) w) 800 - T) (1 / ((2 ^ 200 : Nat) : Rat))) : nb (((pwQ B (pwS b B st k) 6 : Int) : Rat) - (B : Rat) * T ^ 32) ((B : Rat) * (1 / ((2 ^ 160 : Nat) : Rat))) := by
  have hBt : (3000 : Rat) ≤ (B : Rat) * (1 / ((2 ^ 200 : Nat) : Rat)) := by
    have h : ((10 ^ 66 : Int) : Rat) ≤ (B : Rat) := Rat.intCast_le_intCast.mpr hB
    have p : (0 : Rat) ≤ 1 / ((2 ^ 200 : Nat) : Rat) := by decide +kernel
    have d : (3000 : Rat) ≤ ((10 ^ 66 : Int) : Rat) * (1 / ((2 ^ 200 : Nat) : Rat)) := by decide +kernel
    have m := Rat.mul_le_mul_of_nonneg_right h p
    exact Rat.le_trans d m
  have hBr : (3000 : Rat) ≤ (B : Rat) := by
    have d : ((3000 : Int) : Rat) ≤ (B : Rat) := Rat.intCast_le_intCast.mpr (Int.le_trans (by decide) hB)
    simpa using d
  have hB0 : 0 < B := Int.lt_of_lt_of_le (by decide) hB
  cases k with
  | zero => exact absurd hz (show ¬ B = 0 by omega)
  | succ k =>
    have t := (pw_true hB0 hs0 h3 hw w0 (k + 1)).2
    rw [hz] at t
    have e0 : ((0 : Int) : Rat) = 0 := rfl
    rw [e0] at t
    have tl := tl_near (b := decide (¬ b = 0)) (z := w) (U := (B : Rat)) (k := k) w0 (by grind) (by grind) (by omega) (by grind)
    have kr : ((k + 1 : Nat) : Rat) ≤ 700 := by
      have : ((k + 1 : Nat) : Rat) ≤ ((700 : Nat) : Rat) := Rat.natCast_le_natCast.mpr hk
      simpa using this
    have c : nb (((pwS b B st (k + 1) : Int) : Rat) - (B : Rat) * eS (sg (decide (¬ b = 0)) w) (k + 1)) 2100 := by
      by_cases hb : b = 0
      · subst hb
        obtain ⟨u, v⟩ := pw_pos9 hB0 hs0 h3 hw w0 (k + 1)
        show nb (((pwS 0 B st (k + 1) : Int) : Rat) - (B : Rat) * eS w (k + 1)) 2100
        constructor <;> grind
      · obtain ⟨u, v⟩ := pw_neg9 hb hB0 hs0 h3 hw w0 (k + 1)
        have e : decide (¬ b = 0) = true := decide_eq_true hb
        rw [e]
        show nb (((pwS b B st (k + 1) : Int) : Rat) - (B : Rat) * eS (-w) (k + 1)) 2100
        constructor <;> grind
    generalize decide (¬ b = 0) = bb at *
    have s := nb_add c tl
    obtain ⟨yn, yx⟩ := eS_bd (b := bb) w0 (show w ≤ 5/8 by grind)
    generalize eS (sg bb w) 800 = Y at *
    generalize pwS b B st (k + 1) = S at *
    have s0 : nb ((S : Rat) - (B : Rat) * Y) 2103 := by
      have e : (S : Rat) - (B : Rat) * eS (sg bb w) (k + 1) + ((B : Rat) * eS (sg bb w) (k + 1) - (B : Rat) * Y) = (S : Rat) - (B : Rat) * Y := by grind
      rw [e] at s
      exact nb_mono s (by grind)
    have q1 := rd_le (p := S * S) hB0
    rw [Rat.intCast_mul] at q1
    have pτ : (0 : Rat) ≤ 1 / ((2 ^ 200 : Nat) : Rat) := by decide +kernel
    have fτ : 30000000000 * (8 * (1 / ((2 ^ 200 : Nat) : Rat)) + 1 / ((2 ^ 200 : Nat) : Rat)) ≤ 1 / ((2 ^ 160 : Nat) : Rat) := by decide +kernel
    have gτ : 2000000000 * (8 * (1 / ((2 ^ 200 : Nat) : Rat)) + 1 / ((2 ^ 200 : Nat) : Rat)) ≤ 1 := by decide +kernel
    generalize (1 / ((2 ^ 200 : Nat) : Rat) : Rat) = τ at *
    generalize (1 / ((2 ^ 160 : Nat) : Rat) : Rat) = τ1 at *
    have hBp : (0 : Rat) < (B : Rat) := by grind
    -- the first square
    have n1 : nb (((S * S / B : Int) : Rat) - (B : Rat) * T) ((B : Rat) * (8 * τ)) := by
      have hs : nb ((S : Rat) + (B : Rat) * Y) (5 * (B : Rat)) := by
        obtain ⟨u1, u2⟩ := s0
        have m1 := Rat.mul_le_mul_of_nonneg_right yn (show 0 ≤ (B : Rat) by grind)
        have m2 := Rat.mul_le_mul_of_nonneg_right yx (show 0 ≤ (B : Rat) by grind)
        constructor <;> grind
      have m := nb_mul (nb_mono s0 (show (2103 : Rat) ≤ (B : Rat) * τ by grind)) hs
      have e : ((S : Rat) - (B : Rat) * Y) * ((S : Rat) + (B : Rat) * Y) = (S : Rat) * (S : Rat) - (B : Rat) * ((B : Rat) * (Y * Y)) := by grind
      rw [e] at m
      have m2 := nb_mul y2 (show nb ((B : Rat) * (B : Rat)) ((B : Rat) * (B : Rat)) from ⟨by have := Rat.mul_nonneg (Rat.le_of_lt hBp) (Rat.le_of_lt hBp); grind, by grind⟩)
      obtain ⟨a1, a2⟩ := m
      obtain ⟨b1, b2⟩ := m2
      obtain ⟨q2, q3⟩ := q1
      generalize ((S * S / B : Int) : Rat) = d at *
      have m3 := Rat.mul_le_mul_of_nonneg_right (show (1 : Rat) ≤ (B : Rat) * τ by grind) (Rat.le_of_lt hBp)
      generalize (B : Rat) = β at *
      constructor
      · exact mul_cancel_le hBp (by grind)
      · exact mul_cancel_le hBp (by grind)
    have hc : (1 : Rat) ≤ (B : Rat) * τ := by grind
    have f := sq5 (U := (B : Rat)) (B := T) (c := (B : Rat) * τ) (E := (B : Rat) * (8 * τ)) (q := fun j => ((pwQ B S (j + 1) : Int) : Rat)) hBp hT0 hT n1 (by grind) (fun j hj => by
      obtain ⟨d1, d2⟩ := rd_le (p := pwQ B S (j + 1) * pwQ B S (j + 1)) hB0
      rw [Rat.intCast_mul] at d1 d2
      have E : pwQ B S (j + 1 + 1) = pwQ B S (j + 1) * pwQ B S (j + 1) / B := rfl
      rw [E]
      have m1 := Rat.mul_le_mul_of_nonneg_right hc (Rat.le_of_lt hBp)
      generalize ((pwQ B S (j + 1) * pwQ B S (j + 1) / B : Int) : Rat) = d at *
      generalize ((pwQ B S (j + 1) : Int) : Rat) = q at *
      generalize (B : Rat) = β at *
      constructor <;> grind) (by
      have := Rat.mul_le_mul_of_nonneg_right gτ (Rat.le_of_lt hBp)
      grind)
    refine nb_mono f ?_
    have := Rat.mul_le_mul_of_nonneg_right fτ (Rat.le_of_lt hBp)
    grind
