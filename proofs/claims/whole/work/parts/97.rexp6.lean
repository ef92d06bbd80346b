/-! the reference's sum against the true one -/
theorem pw_pos9 {B st : Int} {w : Rat} (hB : 0 < B) (hs : 0 ≤ st) (h3 : 3 * st ≤ B) (hw : (B : Rat) * w = (st : Rat)) (hw0 : 0 ≤ w) : ∀ n, ((pwS 0 B st n : Int) : Rat) ≤ (B : Rat) * eS w n ∧ (B : Rat) * eS w n ≤ ((pwS 0 B st n : Int) : Rat) + 3 * (n : Rat)
  | 0 => by
    have e : ((pwS 0 B st 0 : Int) : Rat) = (B : Rat) := rfl
    have e0 : eS w 0 = 1 := rfl
    have e1 : ((0 : Nat) : Rat) = 0 := rfl
    rw [e, e0, e1]
    generalize (B : Rat) = A at *
    constructor <;> grind
  | n + 1 => by
    obtain ⟨i1, i2⟩ := pw_pos9 hB hs h3 hw hw0 n
    obtain ⟨t1, t2⟩ := pw_true hB hs h3 hw hw0 (n + 1)
    have E : pwS 0 B st (n + 1) = pwS 0 B st n + pwT B st (n + 1) := if_pos rfl
    have e9 : eS w (n + 1) = eS w n + eT w (n + 1) := rfl
    have en : ((n + 1 : Nat) : Rat) = (n : Rat) + 1 := by simp
    rw [E, Rat.intCast_add, e9, en]
    generalize (B : Rat) = A at *
    constructor <;> grind
theorem pw_neg9 {b : Int32} {B st : Int} {w : Rat} (hb : ¬ b = 0) (hB : 0 < B) (hs : 0 ≤ st) (h3 : 3 * st ≤ B) (hw : (B : Rat) * w = (st : Rat)) (hw0 : 0 ≤ w) : ∀ n, ((pwS b B st n : Int) : Rat) ≤ (B : Rat) * eS (-w) n + 3 * (n : Rat) ∧ (B : Rat) * eS (-w) n ≤ ((pwS b B st n : Int) : Rat) + 3 * (n : Rat)
  | 0 => by
    have e : ((pwS b B st 0 : Int) : Rat) = (B : Rat) := rfl
    have e0 : eS (-w) 0 = 1 := rfl
    have e1 : ((0 : Nat) : Rat) = 0 := rfl
    rw [e, e0, e1]
    generalize (B : Rat) = A at *
    constructor <;> grind
  | n + 1 => by
    obtain ⟨i1, i2⟩ := pw_neg9 hb hB hs h3 hw hw0 n
    obtain ⟨t1, t2⟩ := pw_true hB hs h3 hw hw0 (n + 1)
    have e9 : eS (-w) (n + 1) = eS (-w) n + eT (-w) (n + 1) := rfl
    have en : ((n + 1 : Nat) : Rat) = (n : Rat) + 1 := by simp
    rw [e9, eT_neg, en]
    rcases (show (n + 1) % 2 = 1 ∨ ¬ (n + 1) % 2 = 1 by omega) with hn | hn
    · have E : pwS b B st (n + 1) = pwS b B st n - pwT B st (n + 1) := (if_neg hb).trans (if_pos hn)
      rw [if_pos hn, E, Rat.intCast_sub]
      generalize (B : Rat) = A at *
      constructor <;> grind
    · have E : pwS b B st (n + 1) = pwS b B st n + pwT B st (n + 1) := (if_neg hb).trans (if_neg hn)
      rw [if_neg hn, E, Rat.intCast_add]
      generalize (B : Rat) = A at *
      constructor <;> grind
