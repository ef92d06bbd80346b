/-! the exponential of any number up to 100: ee -/
def ee (x : Rat) : Rat := eS x 800
theorem eT_abs {u α : Rat} (h : nb u α) (i : Nat) : nb (eT u i) (eT α i) := by
  rcases (show 0 ≤ u ∨ u ≤ 0 by grind) with q | q
  · have a := eT_mono q h.2 i
    have b := eT_nn q i
    exact ⟨by grind, a⟩
  · have a := eT_mono (show 0 ≤ -u by grind) (show -u ≤ α by have := h.1; grind) i
    have b := eT_ab (show 0 ≤ -u by grind) i
    have e : - -u = u := by grind
    rw [e] at b
    exact ⟨by grind, by grind⟩
theorem ee_add {u v α β : Rat} (ha : nb u α) (hb : nb v β) (h : α + β ≤ 200) : nb (ee u * ee v - ee (u + v)) t4 := by
  have k := pr_bd (eT_abs ha) (eT_abs hb) 800
  have e : sm (cw (eT u) (eT v)) (800 + 1) = eS (u + v) 800 := by
    rw [eS_sm]
    exact sm_cong _ (fun i _ => cv_eT u v i)
  rw [e, ← eS_sm, ← eS_sm] at k
  have d := df_200 (nb_nn ha) (nb_nn hb) h
  have t := t4_0
  generalize eS α 800 * eS β 800 - eS (α + β) 800 = D at *
  unfold ee
  refine nb_mono k ?_
  generalize t4 = T at *
  grind
theorem ee_0 : ee 0 = 1 := eS_0 800
theorem ee_nn {x : Rat} (h : 0 ≤ x) : 1 + x ≤ ee x := by
  have m := eS_mono h 799 1
  rw [show 1 + 799 = 800 from rfl] at m
  have e1 : eS x 1 = 1 + eT x 1 := rfl
  rw [e1, eT_1] at m
  exact m
/-- below 0 it is below 1 -/
theorem ee_np {x α : Rat} (h : x ≤ 0) (ha : nb x α) (hα : α ≤ 100) : ee x ≤ 1 + 2 * t4 := by
  have k := ee_add ha (nb_neg ha) (by grind)
  rw [show x + -x = 0 by grind, ee_0] at k
  have n := ee_nn (show 0 ≤ -x by grind)
  have t := t4_0
  have t1 := t4_1
  have k2 := k.2
  refine Decidable.byContradiction (fun q => ?_)
  have p1 : 1 + 2 * t4 < ee x := by grind
  have p2 : 1 ≤ ee (-x) := by grind
  have m := Rat.mul_le_mul_of_nonneg_right p2 (show 0 ≤ ee x by grind)
  grind
/-- powers: e to the n l where e to the l is near 2 -/
theorem ee_two {l e : Rat} (l0 : 0 ≤ l) (l1 : l ≤ 1) (he : 8 * t4 ≤ e) (he1 : e ≤ 1/1000) (h : nb (ee l - 2) e) : ∀ n : Nat, n ≤ 50 → nb (ee ((n : Rat) * l) - 2 ^ n) (2 ^ n * ((n : Rat) * e))
  | 0, _ => by
    have e0 : ((0 : Nat) : Rat) = 0 := rfl
    rw [e0, show (0 : Rat) * l = 0 by grind, ee_0, Rat.pow_zero]
    exact ⟨by grind, by grind⟩
  | n + 1, hn => by
    have i1 := ee_two l0 l1 he he1 h n (by omega)
    have n0 : (0 : Rat) ≤ (n : Rat) := Rat.natCast_nonneg
    have n5 : (n : Rat) ≤ 49 := by
      have : (n : Rat) ≤ ((49 : Nat) : Rat) := Rat.natCast_le_natCast.mpr (by omega)
      simpa using this
    have en : ((n + 1 : Nat) : Rat) = (n : Rat) + 1 := by simp
    have nl0 := Rat.mul_nonneg n0 l0
    have nl5 : (n : Rat) * l ≤ 49 := by
      have a := Rat.mul_le_mul_of_nonneg_right n5 l0
      grind
    have k := ee_add (u := (n : Rat) * l) (v := l) (α := 49) (β := 1) ⟨by grind, nl5⟩ ⟨by grind, l1⟩ (by decide +kernel)
    rw [en, show ((n : Rat) + 1) * l = (n : Rat) * l + l by grind, Rat.pow_succ]
    have e0 := nb_nn h
    have p2' : (1 : Rat) ≤ 2 ^ n := rp_ge (by decide +kernel) n
    have hl : nb (ee l) (2 + e) := by
      have a := ee_nn l0
      have b := h.2
      exact ⟨by grind, by grind⟩
    have m1 := nb_mul i1 hl
    have m2 := nb_mul (show nb ((2 : Rat) ^ n) ((2 : Rat) ^ n) from ⟨by grind, by grind⟩) h
    have s := nb_add (nb_add m1 m2) (nb_neg k)
    generalize ee ((n : Rat) * l) = A at *
    generalize ee l = B at *
    generalize ee ((n : Rat) * l + l) = C at *
    generalize (2 : Rat) ^ n = P at *
    have x : (A - P) * B + P * (B - 2) + -(A * B - C) = C - P * 2 := by grind
    rw [x] at s
    refine nb_mono s ?_
    have ne := Rat.mul_le_mul_of_nonneg_right n5 e0
    have ne0 := Rat.mul_nonneg n0 e0
    -- P n e (2 + e) + P e + t4 <= 2 P (n + 1) e
    have y1 : (n : Rat) * e * e ≤ 49/1000 * e := by
      have a := Rat.mul_le_mul_of_nonneg_right n5 (Rat.mul_nonneg e0 e0)
      have b := Rat.mul_le_mul_of_nonneg_right he1 e0
      grind
    have y2 := Rat.mul_le_mul_of_nonneg_right y1 (show 0 ≤ P by grind)
    have y3 := Rat.mul_le_mul_of_nonneg_right p2' e0
    grind
theorem ee_pos {x α : Rat} (ha : nb x α) (hα : α ≤ 100) : 0 < ee x := by
  have t := t4_1
  rcases (show 0 ≤ x ∨ x ≤ 0 by grind) with q | q
  · have := ee_nn q
    grind
  · have k := (ee_add ha (nb_neg ha) (by grind)).1
    rw [show x + -x = 0 by grind, ee_0] at k
    have n := ee_nn (show 0 ≤ -x by grind)
    refine Decidable.byContradiction (fun z => ?_)
    have m := Rat.mul_nonneg (show 0 ≤ -ee x by grind) (show 0 ≤ ee (-x) by grind)
    grind
