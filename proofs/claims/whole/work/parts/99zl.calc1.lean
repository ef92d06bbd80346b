/-! a calculus without limits: f has the slope g on [0, c] -/
def dv (c : Rat) (f g : Rat → Rat) : Prop := ∃ K : Rat, 0 ≤ K ∧ ∀ s, 0 ≤ s → s ≤ c → (nb (f s) K ∧ nb (g s) K ∧ ∀ t, 0 ≤ t → t ≤ c → nb (f t - f s - g s * (t - s)) (K * ((t - s) * (t - s))))
theorem dv_const {c : Rat} (a : Rat) (ha : 0 ≤ a) : dv c (fun _ => a) (fun _ => 0) := by
  refine ⟨a, ha, fun s _ _ => ⟨⟨by grind, by grind⟩, ⟨by grind, by grind⟩, fun t _ _ => ?_⟩⟩
  have := Rat.mul_nonneg ha (sq_nn (t - s))
  constructor <;> grind
theorem dv_id {c : Rat} (hc : 0 ≤ c) : dv c (fun t => t) (fun _ => 1) := by
  refine ⟨c + 1, by grind, fun s h0 h1 => ⟨⟨by grind, by grind⟩, ⟨by grind, by grind⟩, fun t _ _ => ?_⟩⟩
  have := Rat.mul_nonneg (show 0 ≤ c + 1 by grind) (sq_nn (t - s))
  constructor <;> grind
theorem dv_add {c : Rat} {f g F G : Rat → Rat} (h1 : dv c f g) (h2 : dv c F G) : dv c (fun t => f t + F t) (fun t => g t + G t) := by
  obtain ⟨K, k0, k⟩ := h1
  obtain ⟨J, j0, j⟩ := h2
  refine ⟨K + J, by grind, fun s s0 s1 => ?_⟩
  obtain ⟨a1, a2, a3⟩ := k s s0 s1
  obtain ⟨b1, b2, b3⟩ := j s s0 s1
  refine ⟨nb_add a1 b1, nb_add a2 b2, fun t t0 t1 => ?_⟩
  have x := nb_add (a3 t t0 t1) (b3 t t0 t1)
  have e : f t - f s - g s * (t - s) + (F t - F s - G s * (t - s)) = f t + F t - (f s + F s) - (g s + G s) * (t - s) := by grind
  have e2 : K * ((t - s) * (t - s)) + J * ((t - s) * (t - s)) = (K + J) * ((t - s) * (t - s)) := by grind
  rw [e, e2] at x
  exact x
theorem dv_smul {c : Rat} {f g : Rat → Rat} (a : Rat) (h : dv c f g) : dv c (fun t => a * f t) (fun t => a * g t) := by
  obtain ⟨K, k0, k⟩ := h
  have aa : ∃ A, 0 ≤ A ∧ nb a A := by
    rcases (show 0 ≤ a ∨ a ≤ 0 by grind) with q | q
    · exact ⟨a, q, by grind, by grind⟩
    · exact ⟨-a, by grind, by grind, by grind⟩
  obtain ⟨A, A0, hA⟩ := aa
  refine ⟨A * K, Rat.mul_nonneg A0 k0, fun s s0 s1 => ?_⟩
  obtain ⟨a1, a2, a3⟩ := k s s0 s1
  refine ⟨nb_mul hA a1, nb_mul hA a2, fun t t0 t1 => ?_⟩
  have x := nb_mul hA (a3 t t0 t1)
  have e : a * (f t - f s - g s * (t - s)) = a * f t - a * f s - a * g s * (t - s) := by grind
  have e2 : A * (K * ((t - s) * (t - s))) = A * K * ((t - s) * (t - s)) := by grind
  rw [e, e2] at x
  exact x
theorem dv_mul {c : Rat} {f g F G : Rat → Rat} (hc : 0 ≤ c) (h1 : dv c f g) (h2 : dv c F G) : dv c (fun t => f t * F t) (fun t => g t * F t + f t * G t) := by
  obtain ⟨K, k0, k⟩ := h1
  obtain ⟨J, j0, j⟩ := h2
  have kj := Rat.mul_nonneg k0 j0
  refine ⟨K * J * (3 + c), Rat.mul_nonneg kj (by grind), fun s s0 s1 => ?_⟩
  obtain ⟨a1, a2, a3⟩ := k s s0 s1
  obtain ⟨b1, b2, b3⟩ := j s s0 s1
  have ckj := Rat.mul_nonneg kj hc
  refine ⟨nb_mono (nb_mul a1 b1) (by grind), nb_mono (nb_add (nb_mul a2 b1) (nb_mul a1 b2)) (by grind), fun t t0 t1 => ?_⟩
  obtain ⟨c1, c2, -⟩ := j t t0 t1
  have x1 := nb_mul (a3 t t0 t1) c1
  have x2 := nb_mul a1 (b3 t t0 t1)
  have hh : nb (t - s) c := ⟨by grind, by grind⟩
  have x3 := nb_mul (nb_mul a2 hh) (b3 t t0 t1)
  have sq0 := sq_nn (t - s)
  have x4 := nb_mul (nb_mul a2 b2) (show nb ((t - s) * (t - s)) ((t - s) * (t - s)) from ⟨by grind, by grind⟩)
  have x := nb_add (nb_add x1 x2) (nb_add x3 x4)
  have e : (f t - f s - g s * (t - s)) * F t + f s * (F t - F s - G s * (t - s)) + (g s * (t - s) * (F t - F s - G s * (t - s)) + g s * G s * ((t - s) * (t - s))) = f t * F t - f s * F s - (g s * F s + f s * G s) * (t - s) := by grind
  rw [e] at x
  refine nb_mono x ?_
  generalize (t - s) * (t - s) = h at *
  grind
/-- a number is at most some whole one -/
theorem rat_nat (q : Rat) : ∃ n : Nat, q ≤ (n : Rat) := by
  refine ⟨(q.floor + 1).toNat, ?_⟩
  have h1 := Rat.lt_floor_add_one q
  have h2 : ((q.floor + 1 : Int) : Rat) ≤ ((((q.floor + 1).toNat : Nat) : Int) : Rat) := Rat.intCast_le_intCast.mpr (by omega)
  have e : ((((q.floor + 1).toNat : Nat) : Int) : Rat) = ((q.floor + 1).toNat : Rat) := rfl
  rw [e] at h2
  exact Rat.le_trans (Rat.le_of_lt h1) h2
/-- a small slope: a small change -/
theorem dv_small {c e : Rat} {f g : Rat → Rat} (h : dv c f g) (hg : ∀ s, 0 ≤ s → s ≤ c → nb (g s) e) {x : Rat} (x0 : 0 ≤ x) (x1 : x ≤ c) : nb (f x - f 0) (e * x) := by
  obtain ⟨K, k0, k⟩ := h
  -- n steps
  have step : ∀ (n : Nat) (d : Rat), 0 ≤ d → (n : Rat) * d ≤ c → nb (f ((n : Rat) * d) - f 0) ((n : Rat) * (e * d + K * (d * d))) := fun n d d0 => by
    induction n with
    | zero =>
      intro _
      have e0 : ((0 : Nat) : Rat) = 0 := rfl
      rw [e0, show (0 : Rat) * d = 0 by grind]
      constructor <;> grind
    | succ n ih =>
      intro hn
      have en : ((n + 1 : Nat) : Rat) = (n : Rat) + 1 := by simp
      rw [en] at hn ⊢
      have n0 : (0 : Rat) ≤ (n : Rat) := Rat.natCast_nonneg
      have nd := Rat.mul_nonneg n0 d0
      have i := ih (by grind)
      have t0 : 0 ≤ ((n : Rat) + 1) * d := by grind
      obtain ⟨-, -, q⟩ := k ((n : Rat) * d) nd (by grind)
      have q1 := q (((n : Rat) + 1) * d) t0 hn
      have g1 := hg ((n : Rat) * d) nd (by grind)
      rw [show ((n : Rat) + 1) * d - (n : Rat) * d = d by grind] at q1
      have g2 := nb_mul g1 (show nb d d from ⟨by grind, by grind⟩)
      have s := nb_add i (nb_add q1 g2)
      have e1 : f ((n : Rat) * d) - f 0 + (f (((n : Rat) + 1) * d) - f ((n : Rat) * d) - g ((n : Rat) * d) * d + g ((n : Rat) * d) * d) = f (((n : Rat) + 1) * d) - f 0 := by grind
      rw [e1] at s
      exact nb_mono s (by grind)
  have lim : ∀ n : Nat, nb (f x - f 0) (e * x + K * (x * x) / ((n + 1 : Nat) : Rat)) := fun n => by
    have p := rn_pos n
    have hne : ((n + 1 : Nat) : Rat) ≠ 0 := by grind
    have d0 : 0 ≤ x / ((n + 1 : Nat) : Rat) := mul_cancel_le p (by
      have : ((n + 1 : Nat) : Rat) * (x / ((n + 1 : Nat) : Rat)) = x := by
        generalize ((n + 1 : Nat) : Rat) = m at *
        grind
      rw [this]; grind)
    have ex : ((n + 1 : Nat) : Rat) * (x / ((n + 1 : Nat) : Rat)) = x := by
      generalize ((n + 1 : Nat) : Rat) = m at *
      grind
    have s := step (n + 1) (x / ((n + 1 : Nat) : Rat)) d0 (by rw [ex]; exact x1)
    rw [ex] at s
    refine nb_mono s ?_
    generalize ((n + 1 : Nat) : Rat) = m at *
    have : m * (e * (x / m) + K * (x / m * (x / m))) = e * x + K * (x * x) / m := by grind
    rw [this]
    exact Rat.le_refl
  have key : ∀ y : Rat, (∀ n : Nat, y ≤ e * x + K * (x * x) / ((n + 1 : Nat) : Rat)) → y ≤ e * x := fun y hy => by
    refine Decidable.byContradiction (fun q => ?_)
    have δ : 0 < y - e * x := by grind
    obtain ⟨n, hn⟩ := rat_nat (K * (x * x) / (y - e * x))
    have h9 := hy n
    have p := rn_pos n
    have en : ((n + 1 : Nat) : Rat) = (n : Rat) + 1 := by simp
    have e1 : (y - e * x) * (K * (x * x) / (y - e * x)) = K * (x * x) := by
      generalize y - e * x = z at *
      have : z ≠ 0 := by grind
      grind
    have m1 := Rat.mul_le_mul_of_nonneg_right hn (Rat.le_of_lt δ)
    have e2 : ((n + 1 : Nat) : Rat) * (K * (x * x) / ((n + 1 : Nat) : Rat)) = K * (x * x) := by
      generalize ((n + 1 : Nat) : Rat) = m at *
      have : m ≠ 0 := by grind
      grind
    have m2 := Rat.mul_le_mul_of_nonneg_right (show y - e * x ≤ K * (x * x) / ((n + 1 : Nat) : Rat) by grind) (Rat.le_of_lt p)
    have m3 : (y - e * x) * ((n + 1 : Nat) : Rat) ≤ K * (x * x) := by
      rw [Rat.mul_comm (K * (x * x) / _)] at m2
      rw [e2] at m2
      exact m2
    rw [en] at m3
    generalize K * (x * x) / (y - e * x) = w at *
    generalize y - e * x = z at *
    grind
  constructor
  · have := key (-(f x - f 0)) (fun n => by have := (lim n).1; grind)
    grind
  · exact key (f x - f 0) (fun n => (lim n).2)
