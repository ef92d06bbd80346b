/-! waves: what the reference says -/
def wvt (c x : Int32) : Rat := if c = 0 then (if 0 ≤ x then ss ((x.toInt.natAbs : Rat) * wn_d) else -ss ((x.toInt.natAbs : Rat) * wn_d)) else cc ((x.toInt.natAbs : Rat) * wn_d)
theorem wv_low {X : Nat} (h1 : 1 ≤ X) (h2 : X ≤ 100000000) : ¬ nb (1000000000 * ss ((X : Rat) * wn_d)) (1/137438953472) ∧ ¬ nb (1000000000 * cc ((X : Rat) * wn_d)) (1/137438953472) := by
  obtain ⟨a, b⟩ := wn_ni X h1 h2 0 (by decide)
  have e : ((0 : Int) : Rat) = 0 := rfl
  rw [e] at a b
  have z : ∀ y : Rat, y - 0 = y := fun y => by grind
  rw [z] at a b
  exact ⟨a, b⟩
/-- the sign and the quarter's value: W is near the signed Z -/
theorem wv_sg {c x : Int32} {k : Nat} {re : Bool} {C S C1 S1 C2 S2 e : Rat} (hc : c = 0 ∨ c = 1) (e0 : 0 ≤ e) (hC : nb (C - (-1) ^ k * C1) (200 * e)) (hS : nb (S - (-1) ^ k * S1) (200 * e)) (h2 : if re then nb (C2 + C1) (20 * e) ∧ nb (S2 - S1) (20 * e) else C2 = C1 ∧ S2 = S1) {b3 : Int32} (hb : b3 = if re then (if wv_b (wv_0 x c) k = c then 0 else 1) else wv_b (wv_0 x c) k) :
    nb ((if c = 0 then (if 0 ≤ x then S else -S) else C) - (if b3 = 0 then (if c = 0 then S2 else C2) else -(if c = 0 then S2 else C2))) (220 * e) := by
  rw [pm_one] at hC hS
  obtain ⟨c1, c2⟩ := hC
  obtain ⟨s1, s2⟩ := hS
  unfold wv_0 at hb
  rcases hc with hc | hc <;> subst hc
  · rw [if_pos rfl, if_pos rfl]
    cases re with
    | false =>
      rw [if_neg (by decide)] at h2 hb
      obtain ⟨q1, q2⟩ := h2
      by_cases hx : 0 ≤ x
      · rw [if_pos hx, wv_b0] at hb
        rw [if_pos hx]
        by_cases hk : k % 2 = 0
        · rw [if_pos hk] at hb s1 s2
          rw [hb, if_pos rfl, q2]
          constructor <;> grind
        · rw [if_neg hk] at hb s1 s2
          rw [hb, if_neg (by decide), q2]
          constructor <;> grind
      · rw [if_neg hx, if_pos rfl, wv_b1'] at hb
        rw [if_neg hx]
        by_cases hk : k % 2 = 0
        · rw [if_pos hk] at hb s1 s2
          rw [hb, if_neg (by decide), q2]
          constructor <;> grind
        · rw [if_neg hk] at hb s1 s2
          rw [hb, if_pos rfl, q2]
          constructor <;> grind
    | true =>
      rw [if_pos rfl] at h2 hb
      obtain ⟨-, q1, q2⟩ := h2
      by_cases hx : 0 ≤ x
      · rw [if_pos hx, wv_b0] at hb
        rw [if_pos hx]
        by_cases hk : k % 2 = 0
        · rw [if_pos hk] at s1 s2
          rw [if_pos hk, if_pos rfl] at hb
          rw [hb, if_pos rfl]
          constructor <;> grind
        · rw [if_neg hk] at s1 s2
          rw [if_neg hk, if_neg (by decide)] at hb
          rw [hb, if_neg (by decide)]
          constructor <;> grind
      · rw [if_neg hx, if_pos rfl, wv_b1'] at hb
        rw [if_neg hx]
        by_cases hk : k % 2 = 0
        · rw [if_pos hk] at s1 s2
          rw [if_pos hk, if_neg (by decide)] at hb
          rw [hb, if_neg (by decide)]
          constructor <;> grind
        · rw [if_neg hk] at s1 s2
          rw [if_neg hk, if_pos rfl] at hb
          rw [hb, if_pos rfl]
          constructor <;> grind
  · have w0 : (if 0 ≤ x then (0 : Int32) else if (1 : Int32) = 0 then 1 else 0) = 0 := by
      split
      · rfl
      · rfl
    rw [w0, wv_b0] at hb
    rw [if_neg (show ¬ (1 : Int32) = 0 by decide), if_neg (show ¬ (1 : Int32) = 0 by decide)]
    cases re with
    | false =>
      rw [if_neg (by decide)] at h2 hb
      obtain ⟨q1, q2⟩ := h2
      by_cases hk : k % 2 = 0
      · rw [if_pos hk] at hb c1 c2
        rw [hb, if_pos rfl, q1]
        constructor <;> grind
      · rw [if_neg hk] at hb c1 c2
        rw [hb, if_neg (by decide), q1]
        constructor <;> grind
    | true =>
      rw [if_pos rfl] at h2 hb
      obtain ⟨⟨q1, q2⟩, -⟩ := h2
      by_cases hk : k % 2 = 0
      · rw [if_pos hk] at c1 c2
        rw [if_pos hk, if_neg (by decide)] at hb
        rw [hb, if_neg (by decide)]
        constructor <;> grind
      · rw [if_neg hk] at c1 c2
        rw [if_neg hk, if_pos rfl] at hb
        rw [hb, if_pos rfl]
        constructor <;> grind
