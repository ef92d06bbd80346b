/-! sine's and cosine's series -/
theorem ct_par (r : Rat) : ∀ i, cr r (2 * i) = (-1) ^ i * eT r (2 * i) ∧ ci r (2 * i) = 0 ∧ cr r (2 * i + 1) = 0 ∧ ci r (2 * i + 1) = (-1) ^ i * eT r (2 * i + 1)
  | 0 => by
    have a := cr_s r 0
    have b := ci_s r 0
    have c := eT_s r 0
    have hp := rn_pos 0
    have e1 : cr r 0 = 1 := rfl
    have e2 : ci r 0 = 0 := rfl
    have e3 : eT r 0 = 1 := rfl
    rw [e2] at a
    rw [e1] at b
    rw [e3] at c
    rw [Rat.pow_zero]
    show cr r 0 = 1 * eT r 0 ∧ ci r 0 = 0 ∧ cr r (0 + 1) = 0 ∧ ci r (0 + 1) = 1 * eT r (0 + 1)
    rw [e1, e2, e3]
    generalize ((0 + 1 : Nat) : Rat) = m at *
    exact ⟨by grind, rfl, mul_inj hp (by grind), mul_inj hp (by grind)⟩
  | i + 1 => by
    obtain ⟨-, -, i3, i4⟩ := ct_par r i
    have a1 := cr_s r (2 * i + 1)
    have b1 := ci_s r (2 * i + 1)
    have c1 := eT_s r (2 * i + 1)
    have h1 := rn_pos (2 * i + 1)
    have a2 := cr_s r (2 * i + 1 + 1)
    have b2 := ci_s r (2 * i + 1 + 1)
    have c2 := eT_s r (2 * i + 1 + 1)
    have h2 := rn_pos (2 * i + 1 + 1)
    rw [i4] at a1
    rw [i3] at b1
    rw [Rat.pow_succ, show 2 * (i + 1) = 2 * i + 1 + 1 by omega]
    generalize ((2 * i + 1 + 1 : Nat) : Rat) = m1 at *
    generalize ((2 * i + 1 + 1 + 1 : Nat) : Rat) = m2 at *
    have k1 : cr r (2 * i + 1 + 1) = (-1) ^ i * -1 * eT r (2 * i + 1 + 1) := mul_inj h1 (by grind)
    have k2 : ci r (2 * i + 1 + 1) = 0 := mul_inj h1 (by grind)
    rw [k2] at a2
    rw [k1] at b2
    exact ⟨k1, k2, mul_inj h2 (by grind), mul_inj h2 (by grind)⟩
/-- with alternating signs -/
def al (r : Rat) (o : Nat) : Nat → Rat
  | 0 => eT r o
  | n + 1 => if n % 2 = 0 then al r o n - eT r (2 * (n + 1) + o) else al r o n + eT r (2 * (n + 1) + o)
theorem pm_one : ∀ n : Nat, (-1 : Rat) ^ n = if n % 2 = 0 then 1 else -1
  | 0 => rfl
  | n + 1 => by
    rw [Rat.pow_succ, pm_one n]
    rcases (show n % 2 = 0 ∨ n % 2 = 1 by omega) with h | h
    · rw [if_pos h, if_neg (by omega)]; grind
    · rw [if_neg (by omega), if_pos (by omega)]; grind
theorem al_0 (r : Rat) : ∀ n, al r 0 n = cR r (2 * n)
  | 0 => by
    show eT r 0 = 0 + 1
    have : eT r 0 = 1 := rfl
    rw [this]; grind
  | n + 1 => by
    have ih := al_0 r n
    have E : cR r (2 * (n + 1)) = cR r (2 * n) + cr r (2 * n + 1) + cr r (2 * n + 1 + 1) := rfl
    have p := ct_par r n
    have q := ct_par r (n + 1)
    rw [show 2 * n + 1 + 1 = 2 * (n + 1) by omega] at E
    rw [E, ← ih, p.2.2.1, q.1, pm_one]
    show (if n % 2 = 0 then al r 0 n - eT r (2 * (n + 1)) else al r 0 n + eT r (2 * (n + 1))) = _
    rcases (show n % 2 = 0 ∨ n % 2 = 1 by omega) with h | h
    · rw [if_pos h, if_neg (by omega)]; grind
    · rw [if_neg (by omega), if_pos (by omega)]; grind
theorem al_1 (r : Rat) : ∀ n, al r 1 n = cI r (2 * n + 1)
  | 0 => by
    have p := ct_par r 0
    have E : cI r (2 * 0 + 1) = 0 + ci r (2 * 0) + ci r (2 * 0 + 1) := rfl
    rw [E, p.2.1, p.2.2.2, Rat.pow_zero]
    show eT r 1 = 0 + 0 + 1 * eT r 1
    grind
  | n + 1 => by
    have ih := al_1 r n
    have E : cI r (2 * (n + 1) + 1) = cI r (2 * n + 1) + ci r (2 * n + 1 + 1) + ci r (2 * n + 1 + 1 + 1) := rfl
    have q := ct_par r (n + 1)
    rw [show 2 * n + 1 + 1 = 2 * (n + 1) by omega] at E
    rw [E, ← ih, q.2.1, q.2.2.2, pm_one]
    show (if n % 2 = 0 then al r 1 n - eT r (2 * (n + 1) + 1) else al r 1 n + eT r (2 * (n + 1) + 1)) = _
    rcases (show n % 2 = 0 ∨ n % 2 = 1 by omega) with h | h
    · rw [if_pos h, if_neg (by omega)]; grind
    · rw [if_neg (by omega), if_pos (by omega)]; grind
theorem eT_85 {r : Rat} (h0 : 0 ≤ r) (h : r ≤ 8/5) : ∀ m, eT r m ≤ 8/5
  | 0 => by show (1 : Rat) ≤ 8/5; decide +kernel
  | 1 => by
    have e := eT_s r 0
    have c : ((0 + 1 : Nat) : Rat) = 1 := rfl
    have e0 : eT r 0 = 1 := rfl
    rw [c, e0] at e
    show eT r (0 + 1) ≤ 8/5
    grind
  | m + 2 => by
    have ih := eT_85 h0 h (m + 1)
    have e := eT_s r (m + 1)
    have n := eT_nn h0 (m + 1)
    have n2 := eT_nn h0 (m + 1 + 1)
    have c : ((m + 1 + 1 : Nat) : Rat) = (m : Rat) + 2 := by
      have : ((m + 2 : Nat) : Rat) = (m : Rat) + 2 := by simp
      exact this
    have hm : (0 : Rat) ≤ (m : Rat) := Rat.natCast_nonneg
    rw [c] at e
    have k := Rat.mul_le_mul_of_nonneg_right h n
    have k2 := Rat.mul_nonneg hm n2
    show eT r (m + 1 + 1) ≤ 8/5
    grind
/-- one step of the terms: K = (m + 1) (m + 2) -/
theorem tr_step {U r f T T' t t' K E : Rat} (hU : 0 < U) (hr0 : 0 ≤ r) (hr : r ≤ 8/5) (hK : 2 ≤ K) (ht : K * t' = r * r * t) (t0 : 0 ≤ t) (ht8 : t ≤ 8/5) (hT0 : 0 ≤ T) (hf0 : 0 ≤ f) (f1 : f ≤ U * (r * r)) (f2 : U * (r * r) ≤ f + 5) (h1 : T ≤ U * t) (h2 : U * t ≤ T + E) (hE : 0 ≤ E) (s1 : U * (K * T') ≤ T * f) (s2 : T * f ≤ U * (K * T') + U * K + U * 5) : T' ≤ U * t' ∧ K * (U * t') ≤ K * T' + K + 5 + 8 + E * (64/25) := by
  have hKp : 0 < K := by grind
  have rr : r * r ≤ 64/25 := by
    have a := Rat.mul_le_mul_of_nonneg_right hr hr0
    grind
  have rr0 := Rat.mul_nonneg hr0 hr0
  have a1 := Rat.mul_le_mul_of_nonneg_right h1 hf0
  have a2 := Rat.mul_le_mul_of_nonneg_right f1 (Rat.mul_nonneg (Rat.le_of_lt hU) t0)
  have c1 : U * (K * T') ≤ U * (U * (r * r * t)) := by grind
  have b1 := Rat.mul_le_mul_of_nonneg_right h2 (Rat.mul_nonneg (Rat.le_of_lt hU) rr0)
  have b2 := Rat.mul_le_mul_of_nonneg_right f2 hT0
  have b3 := Rat.mul_le_mul_of_nonneg_right rr (Rat.mul_nonneg hE (Rat.le_of_lt hU))
  have b4 := Rat.mul_le_mul_of_nonneg_right ht8 (Rat.le_of_lt hU)
  constructor
  · have : K * T' ≤ K * (U * t') := by
      have e : K * (U * t') = U * (r * r * t) := by grind
      rw [e]
      exact mul_cancel_le hU c1
    exact mul_cancel_le hKp this
  · refine mul_cancel_le hU ?_
    have e : U * (K * (U * t')) = U * t * (U * (r * r)) := by grind
    rw [e]
    grind
/-- the terms, and their sum with alternating signs -/
theorem tr_seq {U r f : Rat} {o : Nat} {T S : Nat → Rat} {m : Nat} (hU : 0 < U) (hr0 : 0 ≤ r) (hr : r ≤ 8/5) (hf0 : 0 ≤ f) (f1 : f ≤ U * (r * r)) (f2 : U * (r * r) ≤ f + 5) (h0 : T 0 = U * eT r o) (hs0 : S 0 = T 0)
    (hT : ∀ i, i < m → 0 ≤ T i ∧ U * (((2 * i + o + 1 : Nat) : Rat) * ((2 * i + o + 2 : Nat) : Rat) * T (i + 1)) ≤ T i * f ∧ T i * f ≤ U * (((2 * i + o + 1 : Nat) : Rat) * ((2 * i + o + 2 : Nat) : Rat) * T (i + 1)) + U * (((2 * i + o + 1 : Nat) : Rat) * ((2 * i + o + 2 : Nat) : Rat)) + U * 5)
    (hS : ∀ i, i < m → S (i + 1) = if i % 2 = 0 then S i - T (i + 1) else S i + T (i + 1)) :
    ∀ i, i ≤ m → T i ≤ U * eT r (2 * i + o) ∧ U * eT r (2 * i + o) ≤ T i + 20 ∧ nb (S i - U * al r o i) (20 * (i : Rat))
  | 0, _ => by
    rw [h0, hs0, h0]
    have e0 : ((0 : Nat) : Rat) = 0 := rfl
    rw [e0]
    show U * eT r o ≤ U * eT r (0 + o) ∧ U * eT r (0 + o) ≤ U * eT r o + 20 ∧ nb (U * eT r o - U * eT r o) (20 * 0)
    rw [Nat.zero_add]
    refine ⟨Rat.le_refl, by grind, ⟨by grind, by grind⟩⟩
  | i + 1, hi => by
    obtain ⟨i1, i2, i3⟩ := tr_seq hU hr0 hr hf0 f1 f2 h0 hs0 hT hS i (by omega)
    obtain ⟨t0, s1, s2⟩ := hT i (by omega)
    have ks := hS i (by omega)
    have e1 := eT_s r (2 * i + o)
    have e2 := eT_s r (2 * i + o + 1)
    have n0 := eT_nn hr0 (2 * i + o)
    have n8 := eT_85 hr0 hr (2 * i + o)
    have p1 := rn_pos (2 * i + o)
    have hm1 : (1 : Rat) ≤ ((2 * i + o + 1 : Nat) : Rat) := by
      have : ((1 : Nat) : Rat) ≤ ((2 * i + o + 1 : Nat) : Rat) := Rat.natCast_le_natCast.mpr (by omega)
      simpa using this
    have hm2 : (2 : Rat) ≤ ((2 * i + o + 2 : Nat) : Rat) := by
      have : ((2 : Nat) : Rat) ≤ ((2 * i + o + 2 : Nat) : Rat) := Rat.natCast_le_natCast.mpr (by omega)
      simpa using this
    have e2' : ((2 * i + o + 2 : Nat) : Rat) * eT r (2 * i + o + 1 + 1) = r * eT r (2 * i + o + 1) := e2
    have hK6 : i ≠ 0 → (6 : Rat) ≤ ((2 * i + o + 1 : Nat) : Rat) * ((2 * i + o + 2 : Nat) : Rat) := fun hi0 => by
      have q1 : (3 : Rat) ≤ ((2 * i + o + 1 : Nat) : Rat) := by
        have : ((3 : Nat) : Rat) ≤ ((2 * i + o + 1 : Nat) : Rat) := Rat.natCast_le_natCast.mpr (by omega)
        simpa using this
      have q2 := Rat.mul_le_mul_of_nonneg_right q1 (show (0 : Rat) ≤ ((2 * i + o + 2 : Nat) : Rat) by grind)
      grind
    have hK2 : (2 : Rat) ≤ ((2 * i + o + 1 : Nat) : Rat) * ((2 * i + o + 2 : Nat) : Rat) := by
      have q2 := Rat.mul_le_mul_of_nonneg_right hm1 (show (0 : Rat) ≤ ((2 * i + o + 2 : Nat) : Rat) by grind)
      grind
    have hKt : ((2 * i + o + 1 : Nat) : Rat) * ((2 * i + o + 2 : Nat) : Rat) * eT r (2 * i + o + 1 + 1) = r * r * eT r (2 * i + o) := by
      generalize ((2 * i + o + 1 : Nat) : Rat) = A at *
      generalize ((2 * i + o + 2 : Nat) : Rat) = B at *
      grind
    generalize hKK : ((2 * i + o + 1 : Nat) : Rat) * ((2 * i + o + 2 : Nat) : Rat) = K at *
    have hKp : 0 < K := by grind
    rw [show 2 * (i + 1) + o = 2 * i + o + 1 + 1 by omega]
    have main : T (i + 1) ≤ U * eT r (2 * i + o + 1 + 1) ∧ U * eT r (2 * i + o + 1 + 1) ≤ T (i + 1) + 20 := by
      by_cases hi0 : i = 0
      · subst hi0
        have z : U * eT r (2 * 0 + o) ≤ T 0 + 0 := by
          rw [h0, show 2 * 0 + o = o by omega]; grind
        obtain ⟨a, b⟩ := tr_step hU hr0 hr hK2 hKt n0 n8 t0 hf0 f1 f2 i1 z Rat.le_refl s1 s2
        refine ⟨a, mul_cancel_le hKp (by grind)⟩
      · obtain ⟨a, b⟩ := tr_step hU hr0 hr hK2 hKt n0 n8 t0 hf0 f1 f2 i1 i2 (by decide +kernel) s1 s2
        have := hK6 hi0
        refine ⟨a, mul_cancel_le hKp (by grind)⟩
    refine ⟨main.1, main.2, ?_⟩
    have en : ((i + 1 : Nat) : Rat) = (i : Rat) + 1 := by simp
    rw [en, ks]
    obtain ⟨m1, m2⟩ := main
    obtain ⟨v1, v2⟩ := i3
    have E : al r o (i + 1) = if i % 2 = 0 then al r o i - eT r (2 * (i + 1) + o) else al r o i + eT r (2 * (i + 1) + o) := rfl
    rw [show 2 * (i + 1) + o = 2 * i + o + 1 + 1 by omega] at E
    rw [E]
    generalize eT r (2 * i + o + 1 + 1) = X at *
    generalize al r o i = Y at *
    by_cases h : i % 2 = 0
    · rw [if_pos h, if_pos h]; constructor <;> grind
    · rw [if_neg h, if_neg h]; constructor <;> grind
/-- where a term is small the sum is near its end -/
theorem al_end {U r : Rat} {o k : Nat} (hU : 2000 ≤ U) (hr0 : 0 ≤ r) (hr : r ≤ 8/5) (hk : k ≤ 300) (ho : o = 0 ∨ o = 1) (ht : U * eT r (2 * k + o) ≤ 20) : nb (U * al r o k - U * (if o = 0 then cc r else ss r)) 20 := by
  have hUp : 0 < U := by grind
  -- terms halve from here on
  have hh : 2 * r ≤ ((2 * k + o + 1 : Nat) : Rat) := by
    by_cases c : 2 ≤ k
    · have : ((5 : Nat) : Rat) ≤ ((2 * k + o + 1 : Nat) : Rat) := Rat.natCast_le_natCast.mpr (by omega)
      have e : ((5 : Nat) : Rat) = 5 := by simp
      rw [e] at this
      grind
    · have hr1 : r ≤ 1/2 := Decidable.byContradiction (fun q => by
        have q1 : 1/2 ≤ r := by grind
        have n : ∀ m, m ≤ 3 → (1/50 : Rat) ≤ eT r m := fun m hm => by
          have b := eT_mono (show (0 : Rat) ≤ 1/2 by decide +kernel) q1 m
          have c : (1/50 : Rat) ≤ eT (1/2) m := by
            rcases (show m = 0 ∨ m = 1 ∨ m = 2 ∨ m = 3 by omega) with e | e | e | e <;> subst e <;> decide +kernel
          exact Rat.le_trans c b
        have := n (2 * k + o) (by omega)
        have m := Rat.mul_le_mul_of_nonneg_right this (Rat.le_of_lt hUp)
        have m2 := Rat.mul_le_mul_of_nonneg_right hU (show (0 : Rat) ≤ 1/50 by decide +kernel)
        generalize eT r (2 * k + o) = X at *
        have : (40 : Rat) ≤ U * (1/50) := by grind
        grind)
      have : ((1 : Nat) : Rat) ≤ ((2 * k + o + 1 : Nat) : Rat) := Rat.natCast_le_natCast.mpr (by omega)
      have e : ((1 : Nat) : Rat) = 1 := by simp
      rw [e] at this
      grind
  have tl := eS_tailn hr0 hh (800 - (2 * k + o))
  have p := eT_nn hr0 (2 * k + o + (800 - (2 * k + o)))
  have hb : nb r r := ⟨by grind, by grind⟩
  have e8 : 2 * k + o + (800 - (2 * k + o)) = 800 := by omega
  rw [e8] at tl p
  have key : ∀ (f : Nat → Rat), (∀ i, nb (f i) (eT r i)) → nb (U * sm f (2 * k + o + 1) - U * sm f 801) 20 := fun f hf => by
    have s := sm_bd hf (2 * k + o + 1) (800 - (2 * k + o))
    rw [show 2 * k + o + 1 + (800 - (2 * k + o)) = 800 + 1 by omega, ← eS_sm, ← eS_sm] at s
    have s2 := nb_neg (nb_mono s (show eS r 800 - eS r (2 * k + o) ≤ eT r (2 * k + o) by
      generalize eS r 800 = X at *
      generalize eT r 800 = Y at *
      grind))
    have m := nb_mul (show nb U U from ⟨by grind, by grind⟩) s2
    have e : U * -(sm f (800 + 1) - sm f (2 * k + o + 1)) = U * sm f (2 * k + o + 1) - U * sm f 801 := by
      show U * -(sm f 801 - sm f (2 * k + o + 1)) = _
      generalize sm f 801 = X
      grind
    rw [e] at m
    exact nb_mono m ht
  rcases ho with ho | ho
  · subst ho
    rw [if_pos rfl, al_0]
    exact key (cr r) (fun i => (ct_bd hb i).1)
  · subst ho
    rw [if_neg (by decide), al_1]
    exact key (ci r) (fun i => (ct_bd hb i).2)
