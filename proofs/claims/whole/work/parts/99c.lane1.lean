/-! lanes: many numbers in one -/
def pk (w : Nat) : (Nat → Nat) → Nat → Nat
  | _, 0 => 0
  | f, n + 1 => f 0 + 2 ^ w * pk w (fun j => f (j + 1)) n
theorem pk_cong {w : Nat} : ∀ {n : Nat} {f g : Nat → Nat}, (∀ j, j < n → f j = g j) → pk w f n = pk w g n
  | 0, _, _, _ => rfl
  | n + 1, f, g, h => by
    show f 0 + 2 ^ w * pk w _ n = g 0 + 2 ^ w * pk w _ n
    rw [h 0 (by omega), pk_cong (n := n) (fun j hj => h (j + 1) (by omega))]
theorem pk_add {w : Nat} : ∀ (n : Nat) (f g : Nat → Nat), pk w f n + pk w g n = pk w (fun j => f j + g j) n
  | 0, _, _ => rfl
  | n + 1, f, g => by
    have ih := pk_add (w := w) n (fun j => f (j + 1)) (fun j => g (j + 1))
    show f 0 + 2 ^ w * pk w _ n + (g 0 + 2 ^ w * pk w _ n) = f 0 + g 0 + 2 ^ w * pk w _ n
    rw [← ih, Nat.mul_add]; omega
theorem pk_ml {w : Nat} (s : Nat) : ∀ (n : Nat) (f : Nat → Nat), s * pk w f n = pk w (fun j => s * f j) n
  | 0, _ => rfl
  | n + 1, f => by
    have ih := pk_ml (w := w) s n (fun j => f (j + 1))
    show s * (f 0 + 2 ^ w * pk w _ n) = s * f 0 + 2 ^ w * pk w _ n
    rw [← ih, Nat.mul_add, Nat.mul_left_comm]
theorem land_lane {w a b c d : Nat} (ha : a < 2 ^ w) (hc : c < 2 ^ w) : (a + 2 ^ w * b) &&& (c + 2 ^ w * d) = (a &&& c) + 2 ^ w * (b &&& d) := by
  have hac : a &&& c < 2 ^ w := Nat.lt_of_le_of_lt Nat.and_le_left ha
  apply Nat.eq_of_testBit_eq
  intro i
  rw [Nat.testBit_and, Nat.add_comm a, Nat.add_comm c, Nat.add_comm (a &&& c), Nat.testBit_two_pow_mul_add _ ha, Nat.testBit_two_pow_mul_add _ hc, Nat.testBit_two_pow_mul_add _ hac]
  split
  · rw [Nat.testBit_and]
  · rw [Nat.testBit_and]
theorem pk_land {w : Nat} : ∀ (n : Nat) (f g : Nat → Nat), (∀ j, j < n → f j < 2 ^ w) → (∀ j, j < n → g j < 2 ^ w) → pk w f n &&& pk w g n = pk w (fun j => f j &&& g j) n
  | 0, _, _, _, _ => Nat.zero_and 0
  | n + 1, f, g, hf, hg => by
    show (f 0 + 2 ^ w * pk w _ n) &&& (g 0 + 2 ^ w * pk w _ n) = (f 0 &&& g 0) + 2 ^ w * pk w _ n
    rw [land_lane (hf 0 (by omega)) (hg 0 (by omega)), pk_land n _ _ (fun j hj => hf (j + 1) (by omega)) (fun j hj => hg (j + 1) (by omega))]
theorem pk_inj {w : Nat} : ∀ (n : Nat) (f g : Nat → Nat), (∀ j, j < n → f j < 2 ^ w) → (∀ j, j < n → g j < 2 ^ w) → pk w f n = pk w g n → ∀ j, j < n → f j = g j
  | 0, _, _, _, _, _, j, hj => absurd hj (by omega)
  | n + 1, f, g, hf, hg, h, j, hj => by
    have h' : f 0 + 2 ^ w * pk w (fun j => f (j + 1)) n = g 0 + 2 ^ w * pk w (fun j => g (j + 1)) n := h
    have p : 0 < 2 ^ w := Nat.two_pow_pos w
    have h0 : f 0 = g 0 := by
      have k := congrArg (· % 2 ^ w) h'
      simp only [Nat.add_mul_mod_self_left] at k
      rwa [Nat.mod_eq_of_lt (hf 0 (by omega)), Nat.mod_eq_of_lt (hg 0 (by omega))] at k
    rw [h0] at h'
    have h1 : pk w (fun j => f (j + 1)) n = pk w (fun j => g (j + 1)) n := Nat.eq_of_mul_eq_mul_left p (Nat.add_left_cancel h')
    cases j with
    | zero => exact h0
    | succ j => exact pk_inj n _ _ (fun j hj => hf (j + 1) (by omega)) (fun j hj => hg (j + 1) (by omega)) h1 j (by omega)
/-- k 2^F + r with r below 2^f has no bit from f to F -/
theorem fld_zero {F f k r : Nat} (hf : f ≤ F) (hr : r < 2 ^ f) : (k * 2 ^ F + r) &&& ((2 ^ (F - f) - 1) * 2 ^ f) = 0 := by
  apply Nat.eq_of_testBit_eq
  intro i
  have hF : r < 2 ^ F := Nat.lt_of_lt_of_le hr (Nat.pow_le_pow_right (by decide) hf)
  rw [Nat.testBit_and, Nat.mul_comm k, Nat.testBit_two_pow_mul_add _ hF, Nat.testBit_mul_two_pow, Nat.testBit_two_pow_sub_one, Nat.zero_testBit]
  by_cases h1 : i < F
  · rw [if_pos h1]
    by_cases h2 : f ≤ i
    · rw [Nat.testBit_lt_two_pow (Nat.lt_of_lt_of_le hr (Nat.pow_le_pow_right (by decide) h2))]; rfl
    · have : decide (f ≤ i) = false := decide_eq_false h2
      rw [this]; simp
  · have : decide (i - f < F - f) = false := decide_eq_false (by omega)
    rw [this]; simp
def msk (F f : Nat) : Nat := (2 ^ (F - f) - 1) * 2 ^ f
/-- no lane of s r is near a multiple of 2^F -/
def lchk (F f R one s : Nat) : Bool :=
  Nat.beq (Nat.land (Nat.add (Nat.land (Nat.add (Nat.mul s R) (Nat.mul (2 ^ (f - 1)) one)) (Nat.mul (msk F f) one)) (Nat.mul (msk F f) one)) (Nat.mul (2 ^ F) one)) (Nat.mul (2 ^ F) one)
theorem lchk_ok {w F f L s : Nat} {r : Nat → Nat} (hf : 0 < f) (hF : f ≤ F) (hw : F + 1 < w) (hr : ∀ j, j < L → s * r j + 2 ^ (f - 1) < 2 ^ w) (h : lchk F f (pk w r L) (pk w (fun _ => 1) L) s = true) :
    ∀ j, j < L → ∀ k, ¬ (k * 2 ^ F ≤ s * r j + 2 ^ (f - 1) ∧ s * r j < k * 2 ^ F + 2 ^ (f - 1)) := by
  intro j hj k ⟨h1, h2⟩
  have E := Nat.eq_of_beq_eq_true h
  have E' : (((s * pk w r L + 2 ^ (f - 1) * pk w (fun _ => 1) L) &&& (msk F f * pk w (fun _ => 1) L)) + msk F f * pk w (fun _ => 1) L) &&& (2 ^ F * pk w (fun _ => 1) L) = 2 ^ F * pk w (fun _ => 1) L := E
  have hm : msk F f < 2 ^ F := by
    have e : 2 ^ F = 2 ^ (F - f) * 2 ^ f := by rw [← Nat.pow_add]; congr 1; omega
    have p := Nat.two_pow_pos f
    have p2 := Nat.two_pow_pos (F - f)
    unfold msk
    rw [e, Nat.sub_mul, Nat.one_mul]
    have : 1 * 2 ^ f ≤ 2 ^ (F - f) * 2 ^ f := Nat.mul_le_mul_right _ p2
    omega
  have hFw : 2 ^ F + 2 ^ F ≤ 2 ^ w := by
    have : 2 ^ (F + 1) ≤ 2 ^ w := Nat.pow_le_pow_right (by decide) (by omega)
    rw [Nat.pow_succ] at this; omega
  rw [pk_ml, pk_ml, pk_ml, pk_ml, pk_add, pk_land _ _ _ (fun j hj => by rw [Nat.mul_one]; exact hr j hj) (fun j hj => by rw [Nat.mul_one]; omega), pk_add, pk_land _ _ _ (fun j hj => ?_) (fun j hj => by rw [Nat.mul_one]; have := Nat.two_pow_pos F; omega)] at E'
  · have Q := pk_inj _ _ _ (fun j hj => Nat.lt_of_le_of_lt Nat.and_le_right (by rw [Nat.mul_one]; have := Nat.two_pow_pos F; omega)) (fun j hj => by rw [Nat.mul_one]; have := Nat.two_pow_pos F; omega) E' j hj
    simp only [Nat.mul_one] at Q
    have f2 : 2 ^ f = 2 ^ (f - 1) + 2 ^ (f - 1) := by rw [show f = f - 1 + 1 by omega, Nat.pow_succ]; simp; omega
    have Z : (s * r j + 2 ^ (f - 1)) &&& msk F f = 0 := by
      rw [show s * r j + 2 ^ (f - 1) = k * 2 ^ F + (s * r j + 2 ^ (f - 1) - k * 2 ^ F) by omega]
      exact fld_zero hF (by omega)
    rw [Z, Nat.zero_add] at Q
    have T := congrArg (fun x => x.testBit F) Q
    simp only [Nat.testBit_and, Nat.testBit_two_pow_self, Nat.testBit_lt_two_pow hm] at T
    exact absurd T (by decide)
  · have : (s * r j + 2 ^ (f - 1) * 1 &&& msk F f * 1) ≤ msk F f * 1 := Nat.and_le_right
    show (s * r j + 2 ^ (f - 1) * 1 &&& msk F f * 1) + msk F f * 1 < 2 ^ w
    omega
