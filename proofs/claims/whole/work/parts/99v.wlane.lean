/-! lanes for waves -/
def xchk (F f one X : Nat) : Bool :=
  Nat.beq (Nat.land (Nat.add (Nat.land (Nat.add X (Nat.mul (2 ^ (f - 1)) one)) (Nat.mul (msk F f) one)) (Nat.mul (msk F f) one)) (Nat.mul (2 ^ F) one)) (Nat.mul (2 ^ F) one)
theorem xchk_ok {w F f L : Nat} {v : Nat → Nat} (hf : 0 < f) (hF : f ≤ F) (hw : F + 1 < w) (hr : ∀ j, j < L → v j + 2 ^ (f - 1) < 2 ^ w) (h : xchk F f (pk w (fun _ => 1) L) (pk w v L) = true) :
    ∀ j, j < L → ∀ k, ¬ (k * 2 ^ F ≤ v j + 2 ^ (f - 1) ∧ v j < k * 2 ^ F + 2 ^ (f - 1)) := by
  intro j hj k hk
  have h' : lchk F f (pk w v L) (pk w (fun _ => 1) L) 1 = true := by
    unfold lchk
    have e : Nat.mul 1 (pk w v L) = pk w v L := Nat.one_mul _
    rw [e]
    exact h
  have := lchk_ok (s := 1) (r := v) hf hF hw (fun j hj => by rw [Nat.one_mul]; exact hr j hj) h' j hj k
  rw [Nat.one_mul] at this
  exact this hk
/-- rows of cosines and sines -/
def wr (A g h : Nat) : Nat → Nat × Nat
  | 0 => (A, 0)
  | j + 1 => (((wr A g h j).1 * g - (wr A g h j).2 * h) / A, ((wr A g h j).2 * g + (wr A g h j).1 * h) / A)
def wrow (w A g h : Nat) : Nat → Nat → Nat → Nat → Nat → Nat → Nat × Nat
  | 0, _, _, _, x, y => (x, y)
  | n + 1, c, s, sh, x, y => wrow w A g h n (Nat.div (Nat.sub (Nat.mul c g) (Nat.mul s h)) A) (Nat.div (Nat.add (Nat.mul s g) (Nat.mul c h)) A) (Nat.add sh w) (Nat.add x (Nat.mul c (Nat.pow 2 sh))) (Nat.add y (Nat.mul s (Nat.pow 2 sh)))
theorem wrow_ok {w A g h : Nat} : ∀ (n j : Nat), wrow w A g h n (wr A g h j).1 (wr A g h j).2 (w * j) (pk w (fun i => (wr A g h i).1) j) (pk w (fun i => (wr A g h i).2) j) = (pk w (fun i => (wr A g h i).1) (j + n), pk w (fun i => (wr A g h i).2) (j + n))
  | 0, _ => rfl
  | n + 1, j => by
    have ih := wrow_ok (w := w) (A := A) (g := g) (h := h) n (j + 1)
    show wrow w A g h n (((wr A g h j).1 * g - (wr A g h j).2 * h) / A) (((wr A g h j).2 * g + (wr A g h j).1 * h) / A) (w * j + w) (pk w (fun i => (wr A g h i).1) j + (wr A g h j).1 * 2 ^ (w * j)) (pk w (fun i => (wr A g h i).2) j + (wr A g h j).2 * 2 ^ (w * j)) = _
    rw [show j + (n + 1) = j + 1 + n by omega, ← ih, pk_snoc, pk_snoc]
    rfl
theorem wrow_eq {w A g h L : Nat} : wrow w A g h L A 0 0 0 0 = (pk w (fun i => (wr A g h i).1) L, pk w (fun i => (wr A g h i).2) L) := by
  have k := wrow_ok (w := w) (A := A) (g := g) (h := h) L 0
  rw [Nat.zero_add L] at k
  exact k
/-- the rows' errors -/
theorem wr_err {A g h L : Nat} {d : Rat} (hA : 1000000000000 ≤ A) (hAt : (A : Rat) * t4 ≤ 1/4) (hd0 : 0 ≤ d) (hL : L ≤ 5000) (hdL : (L : Rat) * d ≤ 1/100) (hc : nb ((g : Rat) - cc d * (A : Rat)) 1) (hs : nb ((h : Rat) - ss d * (A : Rat)) 1) (hg9 : (g : Rat) ≤ (A : Rat)) (hh9 : 1000000 * (h : Rat) ≤ 2 * (A : Rat)) :
    ∀ j, j ≤ L → nb (((wr A g h j).1 : Rat) - cc ((j : Rat) * d) * (A : Rat)) (8 * (j : Rat)) ∧ nb (((wr A g h j).2 : Rat) - ss ((j : Rat) * d) * (A : Rat)) (8 * (j : Rat))
  | 0, _ => by
    have e0 : ((0 : Nat) : Rat) = 0 := rfl
    rw [e0, show (0 : Rat) * d = 0 by grind, cs_0.1, cs_0.2]
    show nb ((A : Rat) - 1 * (A : Rat)) (8 * 0) ∧ nb (((0 : Nat) : Rat) - 0 * (A : Rat)) (8 * 0)
    rw [e0]
    refine ⟨⟨?_, ?_⟩, ⟨?_, ?_⟩⟩ <;> grind
  | j + 1, hj => by
    obtain ⟨i1, i2⟩ := wr_err hA hAt hd0 hL hdL hc hs hg9 hh9 j (by omega)
    have hA9 : (1000000000000 : Rat) ≤ (A : Rat) := by
      have : ((1000000000000 : Nat) : Rat) ≤ (A : Rat) := Rat.natCast_le_natCast.mpr hA
      simpa using this
    have hAp : (0 : Rat) < (A : Rat) := by grind
    have ej : ((j + 1 : Nat) : Rat) = (j : Rat) + 1 := by simp
    have j0 : (0 : Rat) ≤ (j : Rat) := Rat.natCast_nonneg
    have j5 : (j : Rat) ≤ 5000 := by
      have : (j : Rat) ≤ ((5000 : Nat) : Rat) := Rat.natCast_le_natCast.mpr (by omega)
      simpa using this
    have jL : (j : Rat) + 1 ≤ (L : Rat) := by
      have : ((j + 1 : Nat) : Rat) ≤ (L : Rat) := Rat.natCast_le_natCast.mpr hj
      rw [ej] at this; exact this
    have jd0 := Rat.mul_nonneg j0 hd0
    have jd1 := Rat.mul_le_mul_of_nonneg_right jL hd0
    have hb1 : nb ((j : Rat) * d) 1 := ⟨by grind, by grind⟩
    have hb2 : nb d 1 := ⟨by grind, by grind⟩
    have hp : (wr A g h j).2 * h ≤ (wr A g h j).1 * g := by
      obtain ⟨p1, p2⟩ := cs_small jd0 (show (j : Rat) * d ≤ 1 by grind)
      obtain ⟨p3, p4⟩ := cs_small hd0 (show d ≤ 1 by grind)
      have d9 : d ≤ 1/100 := by grind
      have q1 := i1.1
      have q2 := i2.2
      have q3 := hc.1
      have y1 := p1.1
      have y2 := p2.2
      have y3 := p3.1
      have g0 : (0 : Rat) ≤ (g : Rat) := Rat.natCast_nonneg
      have h0 : (0 : Rat) ≤ (h : Rat) := Rat.natCast_nonneg
      have z1 : 9/10 * (A : Rat) ≤ ((wr A g h j).1 : Rat) := by
        have := Rat.mul_le_mul_of_nonneg_right (show 98/100 ≤ cc ((j : Rat) * d) by grind) (Rat.le_of_lt hAp)
        grind
      have z2 : ((wr A g h j).2 : Rat) ≤ 1/10 * (A : Rat) := by
        have := Rat.mul_le_mul_of_nonneg_right (show ss ((j : Rat) * d) ≤ 2/100 by grind) (Rat.le_of_lt hAp)
        grind
      have z3 : 9/10 * (A : Rat) ≤ (g : Rat) := by
        have := Rat.mul_le_mul_of_nonneg_right (show 98/100 ≤ cc d by grind) (Rat.le_of_lt hAp)
        grind
      have z4 : (h : Rat) ≤ 1/10 * (A : Rat) := by grind
      have r : (((wr A g h j).2 * h : Nat) : Rat) ≤ (((wr A g h j).1 * g : Nat) : Rat) := by
        rw [Rat.natCast_mul, Rat.natCast_mul]
        have m1 := Rat.mul_le_mul_of_nonneg_right z2 h0
        have m2 := Rat.mul_le_mul_of_nonneg_right z4 (show (0 : Rat) ≤ 1/10 * (A : Rat) by grind)
        have m3 := Rat.mul_le_mul_of_nonneg_right z1 g0
        have m4 := Rat.mul_le_mul_of_nonneg_right z3 (show (0 : Rat) ≤ 9/10 * (A : Rat) by grind)
        have m5 := Rat.mul_nonneg (Rat.le_of_lt hAp) (Rat.le_of_lt hAp)
        grind
      exact Rat.natCast_le_natCast.mp r
    obtain ⟨k1, k2⟩ := cs_add hb1 hb2 (by decide +kernel)
    obtain ⟨b1, b2⟩ := cs_bd hb1 (by decide +kernel)
    rw [show (j : Rat) * d + d = ((j : Rat) + 1) * d by grind] at k1 k2
    rw [ej]
    have E1 : (wr A g h (j + 1)).1 = ((wr A g h j).1 * g - (wr A g h j).2 * h) / A := rfl
    have E2 : (wr A g h (j + 1)).2 = ((wr A g h j).2 * g + (wr A g h j).1 * h) / A := rfl
    rw [E1, E2]
    obtain ⟨f1, f2⟩ := nd_le ((wr A g h j).1 * g - (wr A g h j).2 * h) A (by omega)
    obtain ⟨f3, f4⟩ := nd_le ((wr A g h j).2 * g + (wr A g h j).1 * h) A (by omega)
    have es : (((wr A g h j).1 * g - (wr A g h j).2 * h : Nat) : Rat) = ((wr A g h j).1 : Rat) * (g : Rat) - ((wr A g h j).2 : Rat) * (h : Rat) := by
      have : (((wr A g h j).1 * g - (wr A g h j).2 * h : Nat) : Rat) + (((wr A g h j).2 * h : Nat) : Rat) = (((wr A g h j).1 * g : Nat) : Rat) := by
        rw [← Rat.natCast_add, Nat.sub_add_cancel hp]
      rw [Rat.natCast_mul, Rat.natCast_mul] at this
      grind
    rw [es] at f1 f2
    rw [Rat.natCast_add, Rat.natCast_mul, Rat.natCast_mul] at f3 f4
    generalize ((((wr A g h j).1 * g - (wr A g h j).2 * h) / A : Nat) : Rat) = C' at *
    generalize ((((wr A g h j).2 * g + (wr A g h j).1 * h) / A : Nat) : Rat) = S' at *
    generalize ((wr A g h j).1 : Rat) = C at *
    generalize ((wr A g h j).2 : Rat) = S at *
    generalize cc (((j : Rat) + 1) * d) = c' at *
    generalize ss (((j : Rat) + 1) * d) = s' at *
    generalize cc ((j : Rat) * d) = c at *
    generalize ss ((j : Rat) * d) = s at *
    generalize cc d = p at *
    generalize ss d = q at *
    have g0 : (0 : Rat) ≤ (g : Rat) := Rat.natCast_nonneg
    have h0 : (0 : Rat) ≤ (h : Rat) := Rat.natCast_nonneg
    generalize (g : Rat) = G at *
    generalize (h : Rat) = H at *
    generalize (A : Rat) = B at *
    have m1 := nb_mul i1 (show nb G B from ⟨by grind, hg9⟩)
    have m2 := nb_mul i2 (show nb H (2 * B / 1000000) from ⟨by grind, by grind⟩)
    have m3 := nb_mul i2 (show nb G B from ⟨by grind, hg9⟩)
    have m4 := nb_mul i1 (show nb H (2 * B / 1000000) from ⟨by grind, by grind⟩)
    have n1 := nb_mul (nb_mul b1 (show nb B B from ⟨by grind, by grind⟩)) hc
    have n2 := nb_mul (nb_mul b2 (show nb B B from ⟨by grind, by grind⟩)) hs
    have n3 := nb_mul (nb_mul b2 (show nb B B from ⟨by grind, by grind⟩)) hc
    have n4 := nb_mul (nb_mul b1 (show nb B B from ⟨by grind, by grind⟩)) hs
    have o1 := nb_mul k1 (show nb (B * B) (B * B) from ⟨by have := Rat.mul_nonneg (Rat.le_of_lt hAp) (Rat.le_of_lt hAp); grind, by grind⟩)
    have o2 := nb_mul k2 (show nb (B * B) (B * B) from ⟨by have := Rat.mul_nonneg (Rat.le_of_lt hAp) (Rat.le_of_lt hAp); grind, by grind⟩)
    have tB : t4 * (B * B) ≤ B * (1/4) := by
      have := Rat.mul_le_mul_of_nonneg_right hAt (Rat.le_of_lt hAp)
      grind
    have jB := Rat.mul_le_mul_of_nonneg_right j5 (Rat.le_of_lt hAp)
    generalize t4 * (B * B) = τ at *
    obtain ⟨u1, u2⟩ := nb_add (nb_add m1 (nb_neg m2)) (nb_add (nb_add n1 (nb_neg n2)) o1)
    obtain ⟨v1, v2⟩ := nb_add (nb_add m3 m4) (nb_add (nb_add n3 n4) o2)
    have x1 : (C - c * B) * G + -((S - s * B) * H) + (c * B * (G - p * B) + -(s * B * (H - q * B)) + (c * p - s * q - c') * (B * B)) = C * G - S * H - B * (c' * B) := by grind
    have x2 : (S - s * B) * G + (C - c * B) * H + (s * B * (G - p * B) + c * B * (H - q * B) + (c * q + s * p - s') * (B * B)) = S * G + C * H - B * (s' * B) := by grind
    rw [x1] at u1 u2
    rw [x2] at v1 v2
    refine ⟨⟨?_, ?_⟩, ⟨?_, ?_⟩⟩
    · exact mul_cancel_le hAp (by grind)
    · exact mul_cancel_le hAp (by grind)
    · exact mul_cancel_le hAp (by grind)
    · exact mul_cancel_le hAp (by grind)
