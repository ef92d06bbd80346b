/-! dew: the class's search -/
theorem xor2_neg (x : Int32) : x ^^^ 2 < 0 ↔ x < 0 := by
  have a : (x ^^^ 2).toBitVec.msb = x.toBitVec.msb := by
    rw [Int32.toBitVec_xor, BitVec.msb_xor, show (2 : Int32).toBitVec.msb = false by decide, Bool.xor_false]
  rw [BitVec.msb_eq_toInt, BitVec.msb_eq_toInt] at a
  rw [i32_lt, i32_lt, show (0 : Int32).toInt = 0 from rfl]
  have b := decide_eq_decide.mp a
  exact b
theorem td2 (a : Int) : (0 ≤ a → a.tdiv 2 = a / 2) ∧ (a < 0 → a.tdiv 2 = -((-a) / 2)) := by
  constructor
  · intro h
    exact Int.tdiv_eq_ediv_of_nonneg h
  · intro h
    have e : a = -(-a) := by omega
    rw [e, Int.neg_tdiv, Int.tdiv_eq_ediv_of_nonneg (by omega)]
    omega
theorem td2_bd {a : Int} (h : -100000 ≤ a) (h2 : a ≤ 100000) : -100000 ≤ a.tdiv 2 ∧ a.tdiv 2 ≤ 100000 := by
  obtain ⟨p, q⟩ := td2 a
  by_cases c : 0 ≤ a
  · rw [p c]; omega
  · rw [q (by omega)]; omega
theorem i32_t2 (x : Int32) (h : -100000 ≤ x.toInt) (h2 : x.toInt ≤ 100000) : (x / 2).toInt = x.toInt.tdiv 2 := by
  rw [Int32.toInt_div, show (2 : Int32).toInt = 2 from rfl]
  have b := td2_bd h h2
  exact Int.bmod_eq_of_le (by omega) (by omega)
theorem fdi_ok {x : Int32} (h : -100000 ≤ x.toInt) (h2 : x.toInt ≤ 100000) : (pu_fdi x 2).toInt = x.toInt / 2 := by
  have d := i32_t2 x h h2
  have b := td2_bd h h2
  obtain ⟨tp, tn⟩ := td2 x.toInt
  have e2 : (2 : Int32).toInt = 2 := rfl
  have e1 : (1 : Int32).toInt = 1 := rfl
  have m : (x / 2 * 2).toInt = x.toInt.tdiv 2 * 2 := by
    rw [Int32.toInt_mul, d, e2]
    exact Int.bmod_eq_of_le (by omega) (by omega)
  have s : (x / 2 - 1).toInt = x.toInt.tdiv 2 - 1 := by rw [i32_sub (by rw [d, e1]; omega) (by rw [d, e1]; omega), d, e1]
  unfold pu_fdi
  by_cases c : x ^^^ 2 < 0 ∧ ¬ x / 2 * 2 = x
  · rw [if_pos c, s]
    have n := (i32_lt _ _).mp ((xor2_neg x).mp c.1)
    rw [show (0 : Int32).toInt = 0 from rfl] at n
    have ne : ¬ x.toInt.tdiv 2 * 2 = x.toInt := fun q => c.2 (Int32.toInt_inj.mp (by rw [m]; exact q))
    have tn' := tn n
    clear tp tn
    generalize x.toInt.tdiv 2 = w at *
    omega
  · rw [if_neg c, d]
    by_cases n : x ^^^ 2 < 0
    · have q : x / 2 * 2 = x := by
        by_cases w : x / 2 * 2 = x
        · exact w
        · exact absurd ⟨n, w⟩ c
      have q2 := congrArg Int32.toInt q
      rw [m] at q2
      clear tp tn
      generalize x.toInt.tdiv 2 = w at *
      omega
    · have p : ¬ x < 0 := fun w => n ((xor2_neg x).mpr w)
      have p2 : ¬ x.toInt < 0 := fun w => p ((i32_lt _ _).mpr (by rw [show (0 : Int32).toInt = 0 from rfl]; exact w))
      exact tp (by omega)
theorem dwm_ok {lo hi : Int32} (h1 : -4001 ≤ lo.toInt) (h2 : hi.toInt ≤ 10000) (h3 : lo.toInt ≤ hi.toInt) : (dw_m lo hi).toInt = (lo.toInt + hi.toInt + 1) / 2 := by
  have e1 : (1 : Int32).toInt = 1 := rfl
  have s1 : (lo + hi).toInt = lo.toInt + hi.toInt := i32_add (by omega) (by omega)
  have s2 : (lo + hi + 1).toInt = lo.toInt + hi.toInt + 1 := by rw [i32_add (by rw [s1, e1]; omega) (by rw [s1, e1]; omega), s1, e1]
  unfold dw_m
  rw [fdi_ok (by omega) (by omega), s2]
theorem dw_inv {u : rk_U} {c : Int → Prop} (hm : ∀ m m', m' ≤ m → -4000 ≤ m' → m ≤ 10000 → c m → c m') (hz : ∀ (m : Int32) (v : rk_U), v 8 = u 8 → -4000 ≤ m.toInt → m.toInt ≤ 10000 → (dw_z m v = 0 ↔ ¬ c m.toInt) ∧ dw_v m v 8 = u 8) : ∀ i, (∀ j, j < i → (dw_st u j).1.toInt < (dw_st u j).2.1.toInt) →
    (dw_st u i).2.2 8 = u 8 ∧ -4001 ≤ (dw_st u i).1.toInt ∧ (dw_st u i).1.toInt ≤ (dw_st u i).2.1.toInt ∧ (dw_st u i).2.1.toInt ≤ 10000 ∧ ((dw_st u i).1.toInt = -4001 ∨ c (dw_st u i).1.toInt) ∧ (∀ m, (dw_st u i).2.1.toInt < m → m ≤ 10000 → ¬ c m) ∧ ((dw_st u i).2.1.toInt - (dw_st u i).1.toInt) * 2 ^ i ≤ 14001
  | 0, _ => by
    have e1 : (dw_st u 0).1.toInt = -4001 := rfl
    have e2 : (dw_st u 0).2.1.toInt = 10000 := rfl
    have e3 : (dw_st u 0).2.2 = u := rfl
    rw [e1, e2, e3]
    exact ⟨rfl, by decide, by decide, by decide, Or.inl rfl, fun m a b => absurd a (by omega), by decide⟩
  | i + 1, h => by
    obtain ⟨i1, i2, i3, i4, i5, i6, i7⟩ := dw_inv hm hz i (fun j hj => h j (by omega))
    have hlt := h i (by omega)
    have E : dw_st u (i + 1) = if dw_z (dw_m (dw_st u i).1 (dw_st u i).2.1) (dw_st u i).2.2 = 0 then ((dw_st u i).1, dw_m (dw_st u i).1 (dw_st u i).2.1 - 1, dw_v (dw_m (dw_st u i).1 (dw_st u i).2.1) (dw_st u i).2.2) else (dw_m (dw_st u i).1 (dw_st u i).2.1, (dw_st u i).2.1, dw_v (dw_m (dw_st u i).1 (dw_st u i).2.1) (dw_st u i).2.2) := rfl
    rw [E]
    clear E h
    generalize (dw_st u i).1 = lo at *
    generalize (dw_st u i).2.1 = hi at *
    generalize (dw_st u i).2.2 = v at *
    have dm9 := dwm_ok i2 i4 i3
    obtain ⟨z1, z2⟩ := hz (dw_m lo hi) v i1 (by omega) (by omega)
    generalize dw_m lo hi = m at *
    have e1 : (1 : Int32).toInt = 1 := rfl
    have em : (m - 1).toInt = m.toInt - 1 := by rw [i32_sub (by rw [e1]; omega) (by rw [e1]; omega), e1]
    have pw : (2 : Int) ^ (i + 1) = 2 ^ i * 2 := Int.pow_succ 2 i
    have p0 : (0 : Int) < 2 ^ i := Int.pow_pos (by decide)
    by_cases q : dw_z m v = 0
    · rw [if_pos q]
      have nc := z1.mp q
      show dw_v m v 8 = u 8 ∧ -4001 ≤ lo.toInt ∧ lo.toInt ≤ (m - 1).toInt ∧ (m - 1).toInt ≤ 10000 ∧ (lo.toInt = -4001 ∨ c lo.toInt) ∧ (∀ x, (m - 1).toInt < x → x ≤ 10000 → ¬ c x) ∧ ((m - 1).toInt - lo.toInt) * 2 ^ (i + 1) ≤ 14001
      rw [em]
      refine ⟨z2, i2, by omega, by omega, i5, fun x a b hx => ?_, ?_⟩
      · exact nc (hm x m.toInt (by omega) (by omega) b hx)
      · rw [pw]
        have k : (m.toInt - 1 - lo.toInt) * 2 ≤ hi.toInt - lo.toInt := by omega
        have k2 := Int.mul_le_mul_of_nonneg_right k (Int.le_of_lt p0)
        have e : (m.toInt - 1 - lo.toInt) * (2 ^ i * 2) = (m.toInt - 1 - lo.toInt) * 2 * 2 ^ i := by
          generalize (2 : Int) ^ i = P
          grind
        rw [e]
        omega
    · rw [if_neg q]
      have yc : c m.toInt := by
        by_cases w : c m.toInt
        · exact w
        · exact absurd (z1.mpr w) q
      show dw_v m v 8 = u 8 ∧ -4001 ≤ m.toInt ∧ m.toInt ≤ hi.toInt ∧ hi.toInt ≤ 10000 ∧ (m.toInt = -4001 ∨ c m.toInt) ∧ (∀ x, hi.toInt < x → x ≤ 10000 → ¬ c x) ∧ (hi.toInt - m.toInt) * 2 ^ (i + 1) ≤ 14001
      refine ⟨z2, by omega, by omega, i4, Or.inr yc, i6, ?_⟩
      rw [pw]
      have k : (hi.toInt - m.toInt) * 2 ≤ hi.toInt - lo.toInt := by omega
      have k2 := Int.mul_le_mul_of_nonneg_right k (Int.le_of_lt p0)
      have e : (hi.toInt - m.toInt) * (2 ^ i * 2) = (hi.toInt - m.toInt) * 2 * 2 ^ i := by
        generalize (2 : Int) ^ i = P
        grind
      rw [e]
      omega
