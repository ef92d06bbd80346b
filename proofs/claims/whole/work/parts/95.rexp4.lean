/-! the class's sum against the true one -/
theorem eT_neg (z : Rat) : ∀ n, eT (-z) n = if n % 2 = 1 then -eT z n else eT z n
  | 0 => rfl
  | n + 1 => by
    have a := eT_s (-z) n
    have b := eT_s z n
    have h := rn_pos n
    have h2 : ((n + 1 : Nat) : Rat) ≠ 0 := by grind
    rw [eT_neg z n] at a
    generalize ((n + 1 : Nat) : Rat) = m at *
    rcases (show n % 2 = 0 ∨ n % 2 = 1 by omega) with hn | hn
    · rw [if_neg (by omega)] at a
      rw [if_pos (by omega)]
      have h3 : m * (eT (-z) (n + 1) + eT z (n + 1)) = 0 := by grind
      rcases Rat.mul_eq_zero.mp h3 with q | q
      · exact absurd q h2
      · grind
    · rw [if_pos hn] at a
      rw [if_neg (by omega)]
      have h3 : m * (eT (-z) (n + 1) - eT z (n + 1)) = 0 := by grind
      rcases Rat.mul_eq_zero.mp h3 with q | q
      · exact absurd q h2
      · grind
theorem ce_pos {a D : Nat} {z : Rat} (hD : 0 < D) (h : 8 * a ≤ 5 * D) (hz : (D : Rat) * z = (a : Rat)) (hz0 : 0 ≤ z) : ∀ n, (ceS false a D n : Rat) ≤ ((2 ^ 160 : Nat) : Rat) * eS z n ∧ ((2 ^ 160 : Nat) : Rat) * eS z n ≤ (ceS false a D n : Rat) + 3 * (n : Rat)
  | 0 => by
    have e : ((ceS false a D 0 : Nat) : Rat) = ((2 ^ 160 : Nat) : Rat) := rfl
    have e0 : eS z 0 = 1 := rfl
    have e1 : ((0 : Nat) : Rat) = 0 := rfl
    rw [e, e0, e1]
    generalize ((2 ^ 160 : Nat) : Rat) = A at *
    constructor <;> grind
  | n + 1 => by
    obtain ⟨i1, i2⟩ := ce_pos hD h hz hz0 n
    obtain ⟨t1, t2⟩ := ce_true hD h hz hz0 (n + 1)
    have E : ceS false a D (n + 1) = ceS false a D n + ceT a D (n + 1) := if_neg (fun q => absurd q.1 (by decide))
    have e9 : eS z (n + 1) = eS z n + eT z (n + 1) := rfl
    have en : ((n + 1 : Nat) : Rat) = (n : Rat) + 1 := by simp
    rw [E, Rat.natCast_add, e9, en]
    generalize ((2 ^ 160 : Nat) : Rat) = A at *
    constructor <;> grind
theorem ce_neg {a D : Nat} {z : Rat} (hD : 0 < D) (h : 8 * a ≤ 5 * D) (hz : (D : Rat) * z = (a : Rat)) (hz0 : 0 ≤ z) : ∀ n, (ceS true a D n : Rat) ≤ ((2 ^ 160 : Nat) : Rat) * eS (-z) n + 3 * (n : Rat) ∧ ((2 ^ 160 : Nat) : Rat) * eS (-z) n ≤ (ceS true a D n : Rat) + 3 * (n : Rat)
  | 0 => by
    have e : ((ceS true a D 0 : Nat) : Rat) = ((2 ^ 160 : Nat) : Rat) := rfl
    have e0 : eS (-z) 0 = 1 := rfl
    have e1 : ((0 : Nat) : Rat) = 0 := rfl
    rw [e, e0, e1]
    generalize ((2 ^ 160 : Nat) : Rat) = A at *
    constructor <;> grind
  | n + 1 => by
    obtain ⟨i1, i2⟩ := ce_neg hD h hz hz0 n
    obtain ⟨t1, t2⟩ := ce_true hD h hz hz0 (n + 1)
    have b := (cw_bd (ng := true) hD h n).1
    have e9 : eS (-z) (n + 1) = eS (-z) n + eT (-z) (n + 1) := rfl
    have en : ((n + 1 : Nat) : Rat) = (n : Rat) + 1 := by simp
    rw [e9, eT_neg, en]
    rcases (show (n + 1) % 2 = 1 ∨ ¬ (n + 1) % 2 = 1 by omega) with hn | hn
    · have E : ceS true a D (n + 1) = ceS true a D n - ceT a D (n + 1) := if_pos ⟨rfl, hn⟩
      have E2 : ((ceS true a D n - ceT a D (n + 1) : Nat) : Rat) + (ceT a D (n + 1) : Rat) = (ceS true a D n : Rat) := by
        rw [← Rat.natCast_add, Nat.sub_add_cancel b]
      rw [if_pos hn, E]
      generalize ((2 ^ 160 : Nat) : Rat) = A at *
      constructor <;> grind
    · have E : ceS true a D (n + 1) = ceS true a D n + ceT a D (n + 1) := if_neg (fun q => hn q.2)
      rw [if_neg hn, E, Rat.natCast_add]
      generalize ((2 ^ 160 : Nat) : Rat) = A at *
      constructor <;> grind
