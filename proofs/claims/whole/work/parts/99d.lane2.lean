/-! rows of powers -/
def lr (A c : Nat) : Nat → Nat
  | 0 => A
  | j + 1 => lr A c j * c / A
def lrow (w A c : Nat) : Nat → Nat → Nat → Nat → Nat
  | 0, _, _, acc => acc
  | n + 1, r, sh, acc => lrow w A c n (Nat.div (Nat.mul r c) A) (Nat.add sh w) (Nat.add acc (Nat.mul r (Nat.pow 2 sh)))
theorem pk_snoc {w : Nat} : ∀ (n : Nat) (f : Nat → Nat), pk w f (n + 1) = pk w f n + f n * 2 ^ (w * n)
  | 0, f => by show f 0 + 2 ^ w * 0 = 0 + f 0 * 2 ^ (w * 0); simp
  | n + 1, f => by
    have ih := pk_snoc (w := w) n (fun j => f (j + 1))
    show f 0 + 2 ^ w * pk w (fun j => f (j + 1)) (n + 1) = f 0 + 2 ^ w * pk w (fun j => f (j + 1)) n + f (n + 1) * 2 ^ (w * (n + 1))
    rw [ih, Nat.mul_add, Nat.mul_succ w n, Nat.add_comm (w * n) w, Nat.pow_add]
    generalize 2 ^ w = a
    generalize 2 ^ (w * n) = b
    grind
theorem lrow_ok {w A c : Nat} : ∀ (n j : Nat), lrow w A c n (lr A c j) (w * j) (pk w (lr A c) j) = pk w (lr A c) (j + n)
  | 0, _ => rfl
  | n + 1, j => by
    have ih := lrow_ok (w := w) (A := A) (c := c) n (j + 1)
    show lrow w A c n (lr A c j * c / A) (w * j + w) (pk w (lr A c) j + lr A c j * 2 ^ (w * j)) = _
    rw [show j + (n + 1) = j + 1 + n by omega, ← ih, pk_snoc]
    rfl
theorem lrow_eq {w A c L : Nat} : lrow w A c L A 0 0 = pk w (lr A c) L := by
  have := lrow_ok (w := w) (A := A) (c := c) L 0
  rw [Nat.zero_add] at this
  exact this
theorem one_eq {w : Nat} (hw : 0 < w) (L : Nat) : pk w (fun _ => 1) L = (2 ^ (w * L) - 1) / (2 ^ w - 1) := by
  have p : 1 < 2 ^ w := Nat.one_lt_two_pow (by omega)
  have k : ∀ n, pk w (fun _ => 1) n * (2 ^ w - 1) + 1 = 2 ^ (w * n) := fun n => by
    induction n with
    | zero => show 0 * (2 ^ w - 1) + 1 = 2 ^ (w * 0); simp
    | succ n ih =>
      rw [pk_snoc, Nat.one_mul, Nat.add_mul, Nat.mul_succ, Nat.pow_add]
      have e : 2 ^ (w * n) * 2 ^ w = 2 ^ (w * n) * (2 ^ w - 1) + 2 ^ (w * n) := by
        rw [← Nat.mul_succ, Nat.succ_eq_add_one, Nat.sub_add_cancel (by omega)]
      omega
  rw [← k L, Nat.add_sub_cancel, Nat.mul_div_cancel _ (by omega)]
/-! a product, rounded down, against the true one -/
theorem nd_le (p q : Nat) (hq : 0 < q) : (q : Rat) * ((p / q : Nat) : Rat) ≤ (p : Rat) ∧ (p : Rat) ≤ (q : Rat) * ((p / q : Nat) : Rat) + (q : Rat) := by
  have h1 := Nat.div_mul_le_self p q
  have h2 := Nat.lt_div_mul_add (a := p) (b := q) hq
  have r1 : ((p / q * q : Nat) : Rat) ≤ (p : Rat) := Rat.natCast_le_natCast.mpr h1
  have r2 : (p : Rat) ≤ ((p / q * q + q : Nat) : Rat) := Rat.natCast_le_natCast.mpr (Nat.le_of_lt h2)
  rw [Rat.natCast_mul] at r1
  rw [Rat.natCast_add, Rat.natCast_mul] at r2
  constructor <;> grind
/-- s near X, c near g A: s c / A is near X g -/
theorem st_err {A X g e H : Rat} {s c a : Nat} (ha : (a : Rat) = A) (hA : 0 < A) (hX : 0 ≤ X) (hs : nb ((s : Rat) - X) e) (hc : nb ((c : Rat) - g * A) 1) (hH : (c : Rat) ≤ H * A) : nb (((s * c / a : Nat) : Rat) - X * g) (e * H + X / A + 1) := by
  have ha0 : 0 < a := by
    rw [← ha] at hA
    have : ((0 : Nat) : Rat) < (a : Rat) := by simpa using hA
    exact Rat.natCast_lt_natCast.mp this
  obtain ⟨d1, d2⟩ := nd_le (s * c) a ha0
  rw [Rat.natCast_mul, ha] at d1 d2
  have c0 : (0 : Rat) ≤ (c : Rat) := Rat.natCast_nonneg
  have m1 := nb_mul hs (show nb (c : Rat) (H * A) from ⟨by grind, hH⟩)
  have m2 := nb_mul (show nb X X from ⟨by grind, by grind⟩) hc
  have m := nb_add m1 m2
  have e1 : ((s : Rat) - X) * (c : Rat) + X * ((c : Rat) - g * A) = (s : Rat) * (c : Rat) - A * (X * g) := by grind
  rw [e1] at m
  obtain ⟨k1, k2⟩ := m
  have hXA : A * (X / A) = X := by
    have : A ≠ 0 := by grind
    grind
  constructor
  · exact mul_cancel_le hA (by grind)
  · exact mul_cancel_le hA (by grind)
