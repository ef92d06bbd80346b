/-! nearness over Rat -/
def nb (x e : Rat) : Prop := -e ≤ x ∧ x ≤ e
theorem nb_mono {x e d : Rat} (h : nb x e) (q : e ≤ d) : nb x d := ⟨by have := h.1; grind, by have := h.2; grind⟩
theorem nb_nn {x e : Rat} (h : nb x e) : 0 ≤ e := by have := h.1; have := h.2; grind
theorem nb_add {x y e d : Rat} (h : nb x e) (k : nb y d) : nb (x + y) (e + d) := by
  obtain ⟨a, b⟩ := h; obtain ⟨c, f⟩ := k
  constructor <;> grind
theorem nb_mul {x y e d : Rat} (h : nb x e) (k : nb y d) : nb (x * y) (e * d) := pr_ab h.1 h.2 k.1 k.2
theorem nb_neg {x e : Rat} (h : nb x e) : nb (-x) e := by
  obtain ⟨a, b⟩ := h
  constructor <;> grind
/-! both signs -/
theorem df_abg {u v : Rat} (hu : 0 ≤ u) (hv : 0 ≤ v) (n : Nat) : nb (eS (-u) n * eS (-v) n - eS (-u + -v) n) (eS u n * eS v n - eS (u + v) n) := by
  unfold nb
  rw [df_sm, df_sm, ← sm_neg]
  have key : ∀ i, i < n + 1 → -(eT u i * (eS v n - eS v (n - i))) ≤ eT (-u) i * (eS (-v) n - eS (-v) (n - i)) ∧ eT (-u) i * (eS (-v) n - eS (-v) (n - i)) ≤ eT u i * (eS v n - eS v (n - i)) := fun i hi => by
    obtain ⟨a, b⟩ := eT_ab hu i
    obtain ⟨c, d⟩ := eS_ab hv (n - i) i
    rw [show n - i + i = n by omega] at c d
    exact pr_ab a b c d
  exact ⟨sm_le _ (fun i hi => (key i hi).1), sm_le _ (fun i hi => (key i hi).2)⟩
theorem pd_near {u v : Rat} (hu : 0 ≤ u) (hv : 0 ≤ v) (h1 : u + v ≤ 1) (n : Nat) : 0 ≤ eS u (n + 1) * eS v (n + 1) - eS (u + v) (n + 1) ∧ eS u (n + 1) * eS v (n + 1) - eS (u + v) (n + 1) ≤ eT (u + v) (n + 1) := by
  have a := eS_mul_ge hu hv (n + 1)
  have b := eS_mul_le hu hv (n + 1)
  have h : 0 ≤ u + v := by grind
  have c := eS_tail h h1 n (n + 1)
  have d := eT_nn h (n + 1 + (n + 1))
  constructor <;> grind
/-- the sum at e z, e = 1 or -1 -/
def sg (b : Bool) (z : Rat) : Rat := if b then -z else z
theorem sg_near {b : Bool} {u v : Rat} (hu : 0 ≤ u) (hv : 0 ≤ v) (h1 : u + v ≤ 1) (n : Nat) : nb (eS (sg b u) (n + 1) * eS (sg b v) (n + 1) - eS (sg b (u + v)) (n + 1)) (eT (u + v) (n + 1)) := by
  have k := pd_near hu hv h1 n
  cases b with
  | false =>
    show nb (eS u (n + 1) * eS v (n + 1) - eS (u + v) (n + 1)) _
    constructor <;> grind
  | true =>
    have a := df_abg hu hv (n + 1)
    have e : sg true (u + v) = -u + -v := by show -(u + v) = -u + -v; grind
    rw [e]
    exact nb_mono a k.2
theorem eT_mono {u v : Rat} (hu : 0 ≤ u) (h : u ≤ v) : ∀ n, eT u n ≤ eT v n
  | 0 => Rat.le_refl
  | n + 1 => by
    have a := eT_mono hu h n
    have b := eT_s u n
    have c := eT_s v n
    have p := rn_pos n
    have d := eT_nn hu n
    have f := eT_nn (show 0 ≤ v by grind) n
    refine mul_cancel_le p ?_
    rw [b, c]
    have x1 := Rat.mul_le_mul_of_nonneg_right h d
    have x2 := Rat.mul_le_mul_of_nonneg_right a (show 0 ≤ v by grind)
    grind
/-- powers of the sum at d against the sum at x d -/
theorem pw_near {b : Bool} {d t : Rat} {n : Nat} (hd : 0 ≤ d) (ht : eT 1 (n + 1) ≤ t) : ∀ x : Nat, (x : Rat) * d ≤ 1 → nb (eS (sg b d) (n + 1) ^ x - eS (sg b ((x : Rat) * d)) (n + 1)) ((x : Rat) * t * eS d (n + 1) ^ x)
  | 0, _ => by
    have e : ((0 : Nat) : Rat) = 0 := rfl
    have e2 : sg b ((0 : Rat) * d) = 0 := by unfold sg; cases b <;> grind
    rw [e, e2]
    have z : ∀ m, eS 0 m = 1 := fun m => by
      induction m with
      | zero => rfl
      | succ m ih =>
        show eS 0 m + eT 0 m * 0 / _ = 1
        rw [ih]; grind
    rw [z]
    constructor <;> grind
  | x + 1, hx => by
    have ex : ((x + 1 : Nat) : Rat) = (x : Rat) + 1 := by simp
    rw [ex] at hx ⊢
    have hx0 : (0 : Rat) ≤ (x : Rat) := Rat.natCast_nonneg
    have hxd := Rat.mul_nonneg hx0 hd
    have hx1 : (x : Rat) * d + d ≤ 1 := by grind
    have ih := pw_near (b := b) hd ht x (by grind)
    have k := sg_near (b := b) hxd hd hx1 n
    have t1 := eT_mono (u := (x : Rat) * d + d) (v := 1) (by grind) hx1 (n + 1)
    have e1 : ((x : Rat) + 1) * d = (x : Rat) * d + d := by grind
    rw [e1]
    have hb : nb (eS (sg b d) (n + 1)) (eS d (n + 1)) := by
      cases b with
      | false =>
        have := eS_nn hd (n + 1)
        show nb (eS d (n + 1)) _
        constructor <;> grind
      | true =>
        have a := eS_ab hd 0 (n + 1)
        rw [Nat.zero_add] at a
        have e0 : eS d 0 = 1 := rfl
        have e9 : eS (-d) 0 = 1 := rfl
        rw [e0, e9] at a
        have m := eS_mono hd (n + 1) 0
        rw [Nat.zero_add, e0] at m
        show nb (eS (-d) (n + 1)) _
        constructor <;> grind
    have m := nb_mul ih hb
    have one : (1 : Rat) ≤ eS d (n + 1) ^ (x + 1) := by
      have m := eS_mono hd (n + 1) 0
      rw [Nat.zero_add, show eS d 0 = 1 from rfl] at m
      generalize eS d (n + 1) = B at *
      have : ∀ y : Nat, (1 : Rat) ≤ B ^ y := fun y => by
        induction y with
        | zero => rw [Rat.pow_zero]; exact Rat.le_refl
        | succ y ih =>
          rw [Rat.pow_succ]
          have h9 := Rat.mul_le_mul_of_nonneg_right ih (show 0 ≤ B by grind)
          grind
      exact this _
    have tt : 0 ≤ t := by
      have := eT_nn (show (0 : Rat) ≤ 1 by grind) (n + 1)
      grind
    have tn := Rat.mul_le_mul_of_nonneg_right one tt
    have s := nb_add m k
    have P1 : eS (sg b d) (n + 1) ^ (x + 1) = eS (sg b d) (n + 1) ^ x * eS (sg b d) (n + 1) := Rat.pow_succ _ _
    have P2 : eS d (n + 1) ^ (x + 1) = eS d (n + 1) ^ x * eS d (n + 1) := Rat.pow_succ _ _
    rw [P1]
    rw [P2] at tn ⊢
    have E : (eS (sg b d) (n + 1) ^ x - eS (sg b ((x : Rat) * d)) (n + 1)) * eS (sg b d) (n + 1) + (eS (sg b ((x : Rat) * d)) (n + 1) * eS (sg b d) (n + 1) - eS (sg b ((x : Rat) * d + d)) (n + 1)) = eS (sg b d) (n + 1) ^ x * eS (sg b d) (n + 1) - eS (sg b ((x : Rat) * d + d)) (n + 1) := by grind
    rw [E] at s
    refine nb_mono s ?_
    generalize eS d (n + 1) ^ x = Y at *
    generalize eS d (n + 1) = B at *
    generalize eT ((x : Rat) * d + d) (n + 1) = T at *
    have : (x : Rat) * t * Y * B + t ≤ (x + 1) * t * (Y * B) := by grind
    grind
