/-! the exponential series over Rat -/
def eT (z : Rat) : Nat → Rat
  | 0 => 1
  | n + 1 => eT z n * z / ((n + 1 : Nat) : Rat)
def eS (z : Rat) : Nat → Rat
  | 0 => 1
  | n + 1 => eS z n + eT z (n + 1)
theorem rn_pos (n : Nat) : (0 : Rat) < ((n + 1 : Nat) : Rat) := by
  have : (0 : Rat) ≤ (n : Rat) := Rat.natCast_nonneg
  have e : ((n + 1 : Nat) : Rat) = (n : Rat) + 1 := by simp
  grind
theorem eT_s (z : Rat) (n : Nat) : ((n + 1 : Nat) : Rat) * eT z (n + 1) = z * eT z n := by
  have h := rn_pos n
  show ((n + 1 : Nat) : Rat) * (eT z n * z / ((n + 1 : Nat) : Rat)) = _
  have h2 : ((n + 1 : Nat) : Rat) ≠ 0 := by grind
  generalize ((n + 1 : Nat) : Rat) = m at *
  grind
def sm (f : Nat → Rat) : Nat → Rat
  | 0 => 0
  | n + 1 => sm f n + f n
theorem sm_cong {f g : Nat → Rat} : ∀ n, (∀ i, i < n → f i = g i) → sm f n = sm g n
  | 0, _ => rfl
  | n + 1, h => by show sm f n + f n = sm g n + g n; rw [sm_cong n (fun i hi => h i (by omega)), h n (by omega)]
theorem sm_add (f g : Nat → Rat) : ∀ n, sm (fun i => f i + g i) n = sm f n + sm g n
  | 0 => by show (0 : Rat) = 0 + 0; grind
  | n + 1 => by show sm _ n + (f n + g n) = sm f n + f n + (sm g n + g n); rw [sm_add f g n]; grind
theorem sm_mul (c : Rat) (f : Nat → Rat) : ∀ n, sm (fun i => c * f i) n = c * sm f n
  | 0 => by show (0 : Rat) = c * 0; grind
  | n + 1 => by show sm _ n + c * f n = c * (sm f n + f n); rw [sm_mul c f n]; grind
theorem sm_shift (f : Nat → Rat) : ∀ n, sm f (n + 1) = f 0 + sm (fun i => f (i + 1)) n
  | 0 => by show (0 : Rat) + f 0 = f 0 + 0; grind
  | n + 1 => by show sm f (n + 1) + f (n + 1) = f 0 + (sm (fun i => f (i + 1)) n + f (n + 1)); rw [sm_shift f n]; grind
/-- the product of two series, degree s -/
def cv (u v : Rat) (s : Nat) : Rat := sm (fun i => eT u i * eT v (s - i)) (s + 1)
theorem cv_s (u v : Rat) (s : Nat) : ((s + 1 : Nat) : Rat) * cv u v (s + 1) = (u + v) * cv u v s := by
  have e1 : ((s + 1 : Nat) : Rat) * cv u v (s + 1) = sm (fun i => (i : Rat) * eT u i * eT v (s + 1 - i)) (s + 2) + sm (fun i => ((s + 1 - i : Nat) : Rat) * eT u i * eT v (s + 1 - i)) (s + 2) := by
    unfold cv
    rw [← sm_mul, ← sm_add]
    refine sm_cong _ (fun i hi => ?_)
    have e : ((s + 1 : Nat) : Rat) = (i : Rat) + ((s + 1 - i : Nat) : Rat) := by
      have h : s + 1 = i + (s + 1 - i) := by omega
      have h9 : ((i + (s + 1 - i) : Nat) : Rat) = (i : Rat) + ((s + 1 - i : Nat) : Rat) := by simp
      rw [← h9, ← h]
    rw [e]; grind
  have e2 : sm (fun i => (i : Rat) * eT u i * eT v (s + 1 - i)) (s + 2) = u * cv u v s := by
    rw [sm_shift]
    unfold cv
    rw [← sm_mul]
    have e0 : ((0 : Nat) : Rat) * eT u 0 * eT v (s + 1 - 0) = 0 := by simp
    rw [e0]
    have : sm (fun i => ((i + 1 : Nat) : Rat) * eT u (i + 1) * eT v (s + 1 - (i + 1))) (s + 1) = sm (fun i => u * (eT u i * eT v (s - i))) (s + 1) := sm_cong _ (fun i hi => by rw [eT_s, show s + 1 - (i + 1) = s - i by omega]; grind)
    rw [this]; grind
  have e3 : sm (fun i => ((s + 1 - i : Nat) : Rat) * eT u i * eT v (s + 1 - i)) (s + 2) = v * cv u v s := by
    show sm (fun i => ((s + 1 - i : Nat) : Rat) * eT u i * eT v (s + 1 - i)) (s + 1) + ((s + 1 - (s + 1) : Nat) : Rat) * eT u (s + 1) * eT v (s + 1 - (s + 1)) = _
    have e0 : ((s + 1 - (s + 1) : Nat) : Rat) * eT u (s + 1) * eT v (s + 1 - (s + 1)) = 0 := by rw [Nat.sub_self]; simp
    rw [e0]
    unfold cv
    rw [← sm_mul]
    have : sm (fun i => ((s + 1 - i : Nat) : Rat) * eT u i * eT v (s + 1 - i)) (s + 1) = sm (fun i => v * (eT u i * eT v (s - i))) (s + 1) := sm_cong _ (fun i hi => by
      have k := eT_s v (s - i)
      rw [show s + 1 - i = s - i + 1 by omega]
      generalize ((s - i + 1 : Nat) : Rat) = m at *
      grind)
    rw [this]; grind
  rw [e1, e2, e3]; grind
/-- the terms of u + v are the products' -/
theorem cv_eT (u v : Rat) : ∀ s, cv u v s = eT (u + v) s
  | 0 => by unfold cv; show (0 : Rat) + 1 * 1 = 1; grind
  | s + 1 => by
    have a := cv_s u v s
    have b := eT_s (u + v) s
    rw [cv_eT u v s] at a
    have h := rn_pos s
    have h2 : ((s + 1 : Nat) : Rat) ≠ 0 := by grind
    generalize ((s + 1 : Nat) : Rat) = m at *
    rw [← b] at a
    have h3 : m * (cv u v (s + 1) - eT (u + v) (s + 1)) = 0 := by grind
    rcases Rat.mul_eq_zero.mp h3 with q | q
    · exact absurd q h2
    · grind
