/-! waves: signs, whole parts -/
theorem fl_int {V t a A b B : Rat} {n1 n2 : Int} (hA : 0 < A) (hB : 0 < B) (a1 : A * (n1 : Rat) ≤ a) (a2 : a ≤ A * (n1 : Rat) + A) (b1 : B * (n2 : Rat) ≤ b) (b2 : b ≤ B * (n2 : Rat) + B) (h1 : nb (a - A * V) (A * t)) (h2 : nb (b - B * V) (B * t)) (ni : ∀ k : Int, -34359738368 ≤ k → ¬ nb (V - (k : Rat)) t) (l1 : -34359738368 ≤ n1) (l2 : -34359738368 ≤ n2) : n1 = n2 := by
  obtain ⟨c1, c2⟩ := h1
  obtain ⟨d1, d2⟩ := h2
  rcases Int.lt_trichotomy n1 n2 with h | h | h
  · exfalso
    have r : ((n1 + 1 : Int) : Rat) ≤ (n2 : Rat) := Rat.intCast_le_intCast.mpr (by omega)
    rw [Rat.intCast_add] at r
    have e1 : ((1 : Int) : Rat) = 1 := rfl
    rw [e1] at r
    have q := Rat.mul_le_mul_of_nonneg_right r (Rat.le_of_lt hA)
    refine ni n2 l2 ⟨?_, ?_⟩
    · exact mul_cancel_le hB (by grind)
    · exact mul_cancel_le hA (by grind)
  · exact h
  · exfalso
    have r : ((n2 + 1 : Int) : Rat) ≤ (n1 : Rat) := Rat.intCast_le_intCast.mpr (by omega)
    rw [Rat.intCast_add] at r
    have e1 : ((1 : Int) : Rat) = 1 := rfl
    rw [e1] at r
    have q := Rat.mul_le_mul_of_nonneg_right r (Rat.le_of_lt hB)
    refine ni n1 l1 ⟨?_, ?_⟩
    · exact mul_cancel_le hA (by grind)
    · exact mul_cancel_le hB (by grind)
theorem toInt_em {y : Int64} {D : Int} (h : (un y : Int) = D % 2 ^ 64) (h1 : -(2 ^ 63) ≤ D) (h2 : D < 2 ^ 63) : y.toInt = D := by
  have e : y.toInt = if 2 * un y < 2 ^ 64 then (un y : Int) else (un y : Int) - 2 ^ 64 := by
    show y.toBitVec.toInt = _
    rw [BitVec.toInt_eq_toNat_cond]
    rfl
  rw [e]
  split <;> omega
theorem em_mul {a m : Nat} {S : Int} (h : (a : Int) = S % 2 ^ 224) : ((a * m % 2 ^ 224 : Nat) : Int) = (S * m) % 2 ^ 224 := by
  rw [Int.natCast_emod, Int.natCast_mul, h]
  have e2 : ((2 ^ 224 : Nat) : Int) = 2 ^ 224 := by decide
  rw [e2, Int.mul_emod (S % 2 ^ 224), Int.emod_emod_of_dvd _ (Int.dvd_refl _), ← Int.mul_emod]
theorem em_div {x : Nat} {N : Int} (h : (x : Int) = N % 2 ^ 224) : ((x / 2 ^ 160 : Nat) : Int) = (N / 2 ^ 160) % 2 ^ 64 := by
  rw [Int.natCast_ediv, h]
  have e2 : ((2 ^ 160 : Nat) : Int) = 2 ^ 160 := by decide
  rw [e2]
  omega
/-- the class's answer for a number of either sign -/
theorem fn_okI {m : Int64} {u : rk_U} {S : Int} (o : okw (u 0) 7) (hm : un m < 2 ^ 31) (hS : (uv (u 0) 7 : Int) = S % 2 ^ 224) (h1 : -(2 ^ 222) ≤ S * (un m : Int)) (h2 : S * (un m : Int) < 2 ^ 222) : (fn_r m u).toInt = S * (un m : Int) / 2 ^ 160 := by
  have s := scl_ok (k := m) o hm
  have e : rk_scl 0 m u 0 = wr_scl (u 0) m := vup_eq _ _ _
  have E : fn_r m u = wr_wh (rk_scl 0 m u 0) := rfl
  rw [E, e]
  refine toInt_em ?_ ?_ ?_
  · rw [whw_ok s.1, s.2]
    exact em_div (em_mul hS)
  · generalize S * (un m : Int) = N at *
    omega
  · generalize S * (un m : Int) = N at *
    omega
theorem wv_b0 : ∀ k, wv_b 0 k = if k % 2 = 0 then 0 else 1
  | 0 => rfl
  | k + 1 => by
    show (if wv_b 0 k = 0 then (1 : Int32) else 0) = _
    rw [wv_b0 k]
    rcases (show k % 2 = 0 ∨ k % 2 = 1 by omega) with h | h
    · rw [if_pos h, if_pos rfl, if_neg (by omega)]
    · rw [if_neg (show ¬ k % 2 = 0 by omega), if_neg (by decide), if_pos (by omega)]
theorem wv_b1' : ∀ k, wv_b 1 k = if k % 2 = 0 then 1 else 0
  | 0 => rfl
  | k + 1 => by
    show (if wv_b 1 k = 0 then (1 : Int32) else 0) = _
    rw [wv_b1' k]
    rcases (show k % 2 = 0 ∨ k % 2 = 1 by omega) with h | h
    · rw [if_pos h, if_neg (by decide), if_neg (by omega)]
    · rw [if_neg (show ¬ k % 2 = 0 by omega), if_pos rfl, if_pos (by omega)]
/-- cosine up to a little behind pi / 2 -/
theorem cc_low {r : Rat} (h0 : 0 ≤ r) (h : r ≤ hpr + 1 / ((2 ^ 150 : Nat) : Rat)) : -(1 / ((2 ^ 140 : Nat) : Rat)) ≤ cc r := by
  obtain ⟨p0, p1, -, p3⟩ := hpr_bd
  obtain ⟨pc, ps⟩ := hpr_ok
  have e150 : (1 / ((2 ^ 150 : Nat) : Rat)) ≤ 1/10 := by decide +kernel
  have r2 : r ≤ 2 := by
    generalize (1 / ((2 ^ 150 : Nat) : Rat) : Rat) = e at *
    grind
  have hb1 : nb hpr 2 := ⟨by grind, by grind⟩
  have hb2 : nb (-r) 2 := ⟨by grind, by grind⟩
  have k := (cs_add hb1 hb2 (by decide +kernel)).2
  rw [cc_neg, ss_neg] at k
  obtain ⟨b1, b2⟩ := cs_bd (show nb r 2 from ⟨by grind, r2⟩) (by decide +kernel)
  have m1 := nb_mul pc b2
  have m2 := nb_mul ps b1
  have d9 : 4 * (1 / ((2 ^ 157 : Nat) : Rat)) + t4 + 2 * (1 / ((2 ^ 150 : Nat) : Rat)) ≤ 1 / ((2 ^ 140 : Nat) : Rat) := by decide +kernel
  have low : -(2 * (1 / ((2 ^ 150 : Nat) : Rat))) ≤ ss (hpr + -r) := by
    by_cases c : r ≤ hpr
    · have := ss_pos (y := hpr + -r) (by grind) (by grind)
      have n : (0 : Rat) ≤ 1 / ((2 ^ 150 : Nat) : Rat) := by decide +kernel
      generalize (1 / ((2 ^ 150 : Nat) : Rat) : Rat) = e at *
      grind
    · have w := (cs_small (d := r - hpr) (by grind) (by
        generalize (1 / ((2 ^ 150 : Nat) : Rat) : Rat) = e at *
        grind)).2
      have e : hpr + -r = -(r - hpr) := by grind
      rw [e, ss_neg]
      have := w.2
      generalize (1 / ((2 ^ 150 : Nat) : Rat) : Rat) = e at *
      grind
  generalize (1 / ((2 ^ 150 : Nat) : Rat) : Rat) = e5 at *
  generalize (1 / ((2 ^ 157 : Nat) : Rat) : Rat) = e7 at *
  generalize (1 / ((2 ^ 140 : Nat) : Rat) : Rat) = e4 at *
  obtain ⟨k1, k2⟩ := k
  obtain ⟨u1, u2⟩ := m1
  obtain ⟨v1, v2⟩ := m2
  generalize cc hpr = A at *
  generalize ss hpr = B at *
  generalize cc r = C at *
  generalize ss r = D at *
  generalize ss (hpr + -r) = Z at *
  generalize t4 = τ at *
  grind
theorem pie_bd {f : Nat} (h : f = 11 ∨ f = 17) : 314 * 1000000 ^ f ≤ 100 * pie f ∧ 100 * pie f ≤ 315 * 1000000 ^ f := by
  rcases h with h | h <;> subst h <;> decide +kernel
