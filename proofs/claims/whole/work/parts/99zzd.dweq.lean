/-- the class's question of a warmth -/
def dwc (S m : Int) : Prop := 0 < S * (8 * (24304 + m)) - 141 * m * 2 ^ 160
theorem dwc_mono {S : Int} (m m' : Int) (h : m' ≤ m) (l : -4000 ≤ m') (l2 : m ≤ 10000) (c : dwc S m) : dwc S m' := by
  unfold dwc at *
  have hP : (0 : Int) < 2 ^ 160 := by decide
  generalize (2 : Int) ^ 160 = P at *
  have k1 : 0 < 8 * (24304 + m) := by omega
  have k2 : 0 < 8 * (24304 + m') := by omega
  have a := Int.mul_pos (show 0 < S * (8 * (24304 + m)) - 141 * m * P by omega) k2
  have b : 0 ≤ (m - m') * P := Int.mul_nonneg (by omega) (by omega)
  refine Decidable.byContradiction (fun w => ?_)
  have d := Int.mul_nonneg (show 0 ≤ -(S * (8 * (24304 + m')) - 141 * m' * P) by omega) (Int.le_of_lt k1)
  have e : (S * (8 * (24304 + m)) - 141 * m * P) * (8 * (24304 + m')) + -(S * (8 * (24304 + m')) - 141 * m' * P) * (8 * (24304 + m)) = -(27414912 * ((m - m') * P)) := by grind
  omega
/-- v above y, said by whole numbers -/
theorem dwc_iff {S m : Int} {v y : Rat} (l : -4000 ≤ m) (hv : ((2 ^ 160 : Nat) : Rat) * v = (S : Rat)) (hy : (8 * (24304 + (m : Rat))) * y = 141 * (m : Rat)) : dwc S m ↔ y < v := by
  have P0 : (0 : Rat) < ((2 ^ 160 : Nat) : Rat) := by decide +kernel
  have mr : (-4000 : Rat) ≤ (m : Rat) := by
    have : ((-4000 : Int) : Rat) ≤ (m : Rat) := Rat.intCast_le_intCast.mpr l
    simpa using this
  have k0 : (0 : Rat) < 8 * (24304 + (m : Rat)) := by grind
  have kP := Rat.mul_pos k0 P0
  unfold dwc
  have e : (((S * (8 * (24304 + m)) - 141 * m * 2 ^ 160 : Int)) : Rat) = 8 * (24304 + (m : Rat)) * ((2 ^ 160 : Nat) : Rat) * (v - y) := by
    rw [Rat.intCast_sub, Rat.intCast_mul, Rat.intCast_mul, Rat.intCast_mul, Rat.intCast_mul, Rat.intCast_add, ← hv]
    have i1 : ((8 : Int) : Rat) = 8 := by simp
    have i2 : ((24304 : Int) : Rat) = 24304 := by simp
    have i3 : ((141 : Int) : Rat) = 141 := by simp
    have i4 : ((2 ^ 160 : Int) : Rat) = ((2 ^ 160 : Nat) : Rat) := by decide +kernel
    rw [i1, i2, i3, i4, ← hy]
    generalize ((2 ^ 160 : Nat) : Rat) = P
    grind
  have i : 0 < S * (8 * (24304 + m)) - 141 * m * 2 ^ 160 ↔ (0 : Rat) < ((S * (8 * (24304 + m)) - 141 * m * 2 ^ 160 : Int) : Rat) := by
    rw [← Rat.intCast_lt_intCast]
    rfl
  rw [i, e]
  generalize 8 * (24304 + (m : Rat)) * ((2 ^ 160 : Nat) : Rat) = K at *
  constructor
  · intro h
    refine Decidable.byContradiction (fun w => ?_)
    have := Rat.mul_nonneg (Rat.le_of_lt kP) (show 0 ≤ y - v by grind)
    grind
  · intro h
    exact Rat.mul_pos kP (by grind)
/-- the class's question is the reference's -/
theorem dw_same {t : Int32} (z9 : S2) {S : Int} {v : Rat} {a : Nat} (r1 : -4000 ≤ t.toInt) (r2 : t.toInt ≤ 10000) (a1 : 1 ≤ a) (a2 : a ≤ 1000000001) (hv : ((2 ^ 160 : Nat) : Rat) * v = (S : Rat)) (v47 : nb v 47) (hl : nb (ee v * ((610940 : Nat) : Rat) - (a : Rat)) (4 * eta * (a : Rat))) (h0 : a = 610940 → S = 0) : dwc S t.toInt ↔ (pr_val t 10000 z9).toInt < (a : Int) := by
  have cb : ((610940 : Nat) : Rat) = 610940 := by simp
  rw [cb] at hl
  have ar : (1 : Rat) ≤ (a : Rat) := by
    have : ((1 : Nat) : Rat) ≤ (a : Rat) := Rat.natCast_le_natCast.mpr a1
    simpa using this
  have ar2 : (a : Rat) ≤ 1000000001 := by
    have : (a : Rat) ≤ ((1000000001 : Nat) : Rat) := Rat.natCast_le_natCast.mpr a2
    simpa using this
  have hδ : 4 * eta * (a : Rat) + 3000 * (610940 * t4) < 1/274877906944 := by
    have d : 4 * eta * 1000000001 + 3000 * (610940 * t4) < 1/274877906944 := by decide +kernel
    have e0 : 0 ≤ 4 * eta := by decide +kernel
    have m := Rat.mul_le_mul_of_nonneg_left ar2 e0
    generalize 3000 * (610940 * t4) = τ at *
    generalize 4 * eta = η at *
    grind
  have ht : t.toInt = 0 ∨ t.toInt ≠ 0 := by omega
  rcases ht with ht | ht
  · have e : pr_val t 10000 z9 = 610940 := by
      have : t = 0 := Int32.toInt_inj.mp (by rw [ht]; rfl)
      exact (if_pos this).trans (by decide)
    rw [e, show (610940 : Int64).toInt = 610940 from rfl, dwc_iff (m := t.toInt) (v := v) (y := 0) r1 hv (by rw [ht]; grind)]
    have k := dw_core (v := v) (y := 0) (a := (a : Rat)) (b := 610940) (η := 4 * eta) (δ := 1/274877906944) v47 ⟨by decide +kernel, by decide +kernel⟩ (by decide +kernel) hl (by rw [ee_0]; decide +kernel) hδ
    rw [ee_0] at k
    rcases Nat.lt_trichotomy a 610940 with h | h | h
    · have : (a : Rat) + 1 ≤ 610940 := by
        have : ((a + 1 : Nat) : Rat) ≤ ((610940 : Nat) : Rat) := Rat.natCast_le_natCast.mpr h
        rw [Rat.natCast_add] at this
        simpa using this
      exact ⟨fun w => absurd w (k.2 (by grind)), fun w => absurd w (by omega)⟩
    · have := h0 h
      rw [this] at hv
      have P0 : (0 : Rat) < ((2 ^ 160 : Nat) : Rat) := by decide +kernel
      have v0 : v = 0 := by
        have e0 : ((0 : Int) : Rat) = 0 := rfl
        rw [e0] at hv
        generalize ((2 ^ 160 : Nat) : Rat) = P at *
        grind
      exact ⟨fun w => by rw [v0] at w; grind, fun w => absurd w (by omega)⟩
    · have : (610940 : Rat) + 1 ≤ (a : Rat) := by
        have : ((610940 + 1 : Nat) : Rat) ≤ (a : Rat) := Rat.natCast_le_natCast.mpr h
        rw [Rat.natCast_add] at this
        simpa using this
      exact ⟨fun _ => by omega, fun _ => k.1 (by grind)⟩
  · obtain ⟨N, z, hz, z0, z3, eN, n1, n2⟩ := dw_num z9 r1 r2 ht
    obtain ⟨yb, yn⟩ := dw_pw (b := decide (t.toInt < 0)) z0 z3 rfl
    rw [eN]
    have hy : (8 * (24304 + ((t.toInt : Int) : Rat))) * (32 * sg (decide (t.toInt < 0)) z) = 141 * ((t.toInt : Int) : Rat) := by
      by_cases c : t.toInt < 0
      · rw [decide_eq_true c] at hz ⊢
        have q1 : ((dp_D true t.toInt.natAbs : Nat) : Rat) = 256 * (24304 + ((t.toInt : Int) : Rat)) := by
          have : ((dp_D true t.toInt.natAbs : Nat) : Int) = 256 * (24304 + t.toInt) := by
            show ((256 * (24304 - t.toInt.natAbs) : Nat) : Int) = _
            omega
          have := congrArg (fun x : Int => (x : Rat)) this
          simp only [Rat.intCast_mul, Rat.intCast_add] at this
          exact this
        have q2 : ((dp_a t.toInt.natAbs : Nat) : Rat) = -(141 * ((t.toInt : Int) : Rat)) := by
          have : ((dp_a t.toInt.natAbs : Nat) : Int) = -(141 * t.toInt) := by
            show ((141 * t.toInt.natAbs : Nat) : Int) = _
            omega
          have := congrArg (fun x : Int => (x : Rat)) this
          simp only [Rat.intCast_mul, Rat.intCast_neg] at this
          exact this
        rw [q1, q2] at hz
        show _ * (32 * -z) = _
        grind
      · rw [decide_eq_false c] at hz ⊢
        have q1 : ((dp_D false t.toInt.natAbs : Nat) : Rat) = 256 * (24304 + ((t.toInt : Int) : Rat)) := by
          have : ((dp_D false t.toInt.natAbs : Nat) : Int) = 256 * (24304 + t.toInt) := by
            show ((256 * (24304 + t.toInt.natAbs) : Nat) : Int) = _
            omega
          have := congrArg (fun x : Int => (x : Rat)) this
          simp only [Rat.intCast_mul, Rat.intCast_add] at this
          exact this
        have q2 : ((dp_a t.toInt.natAbs : Nat) : Rat) = 141 * ((t.toInt : Int) : Rat) := by
          have : ((dp_a t.toInt.natAbs : Nat) : Int) = 141 * t.toInt := by
            show ((141 * t.toInt.natAbs : Nat) : Int) = _
            omega
          have := congrArg (fun x : Int => (x : Rat)) this
          simp only [Rat.intCast_mul] at this
          exact this
        rw [q1, q2] at hz
        show _ * (32 * z) = _
        grind
    rw [dwc_iff (v := v) (y := 32 * sg (decide (t.toInt < 0)) z) r1 hv hy]
    have k := dw_core (v := v) (y := 32 * sg (decide (t.toInt < 0)) z) (a := (a : Rat)) (b := 610940) (η := 4 * eta) (δ := 1/274877906944) v47 yb (by decide +kernel) hl (ee_le6 yb) hδ
    generalize eS (sg (decide (t.toInt < 0)) z) 800 ^ 32 = T at *
    generalize ee (32 * sg (decide (t.toInt < 0)) z) = E at *
    obtain ⟨y1, y2⟩ := yn
    by_cases c : N < a
    · have : (N : Rat) + 1 ≤ (a : Rat) := by
        have : ((N + 1 : Nat) : Rat) ≤ (a : Rat) := Rat.natCast_le_natCast.mpr c
        rw [Rat.natCast_add] at this
        simpa using this
      exact ⟨fun _ => by omega, fun _ => k.1 (by grind)⟩
    · have : (a : Rat) ≤ (N : Rat) := Rat.natCast_le_natCast.mpr (by omega)
      exact ⟨fun w => absurd w (k.2 (by grind)), fun w => absurd w (by omega)⟩
theorem EQ_dw_ok : EQ_dw := by
  refine ⟨fun t => pr_val t 10000 (fun _ => 0, fun _ => 0), fun t z r1 r2 => ?_, fun q u hq => ?_⟩
  · have n1 : ¬ t < -4000 := fun q => by have := (i32_lt _ _).mp q; rw [show (-4000 : Int32).toInt = -4000 from rfl] at this; omega
    have n2 : ¬ 10000 < t := fun q => by have := (i32_lt _ _).mp q; rw [show (10000 : Int32).toInt = 10000 from rfl] at this; omega
    have hv : ∀ z9, vl_dp t 10000 z9 = pr_val t 10000 z9 := fun z9 => (if_neg (by
        rw [show is_wm t = 1 from (if_neg n1).trans (if_neg n2)]; decide)).trans ((if_neg (by decide)).trans (if_pos (by decide)))
    have rg : ((-4000 : Int64) ≤ t.toInt64 ∧ t.toInt64 ≤ 10000) ∧ ((0 : Int64) ≤ (10000 : Int32).toInt64 ∧ (10000 : Int32).toInt64 ≤ 10000) := ⟨⟨(i64_le _ _).mpr (by rw [Int32.toInt_toInt64]; exact r1), (i64_le _ _).mpr (by rw [Int32.toInt_toInt64]; exact r2)⟩, by decide, by decide⟩
    have a := EQ_dp_ok t 10000 (fun _ _ => 0) z rg
    have b := EQ_dp_ok t 10000 (fun _ _ => 0) (fun _ => 0, fun _ => 0) rg
    rw [hv] at a b
    exact a.symm.trans b
  · have c1 := (i64_le _ _).mp hq.1
    have c2 := (i64_le _ _).mp hq.2
    rw [Int32.toInt_toInt64] at c1 c2
    rw [show (0 : Int64).toInt = 0 from rfl] at c1
    rw [show (1000000000 : Int64).toInt = 1000000000 from rfl] at c2
    have e1 : (1 : Int64).toInt = 1 := rfl
    have ea : un (q.toInt64 + 1) = q.toInt.toNat + 1 := un_of (by
      rw [Int64.toInt_add, Int32.toInt_toInt64, e1, Int.bmod_eq_of_le (by omega) (by omega)]; omega)
    have eb : un (610940 : Int64) = 610940 := by decide
    obtain ⟨o, S, v, s1, s2, s3, s4, s5⟩ := log_true (u := u) ea eb (by omega) (by omega) (by decide) (by decide)
    have cp := cpw_ok (f := rk_log (q.toInt64 + 1) 610940 u (2 * 4)) o
    have x8 : dw_0 q u 8 = wr_cp (rk_log (q.toInt64 + 1) 610940 u (2 * 4)) (rk_log (q.toInt64 + 1) 610940 u (2 * 0)) := by
      show rk_cpy 4 0 (rk_log (q.toInt64 + 1) 610940 u) 8 = _
      generalize rk_log (q.toInt64 + 1) 610940 u = w
      exact vup_eq _ _ _
    have o8 : okw (dw_0 q u 8) 7 ∧ uv (dw_0 q u 8) 7 = uv (rk_log (q.toInt64 + 1) 610940 u 0) 7 := by rw [x8]; exact cp
    generalize dw_0 q u = w at o8 ⊢
    have o9 : (uv (w 8) 7 : Int) = S % 2 ^ 224 := by rw [o8.2]; exact s1
    have o8 := o8.1
    have same := fun (t : Int32) r1 r2 => dw_same (t := t) (fun _ => 0, fun _ => 0) (S := S) (v := v) (a := q.toInt.toNat + 1) r1 r2 (by omega) (by omega) s2 s3 s4 s5
    have Sb : -(2 ^ 170) ≤ S ∧ S ≤ 2 ^ 170 := by
      obtain ⟨b1, b2⟩ := s3
      have d : ((2 ^ 160 : Nat) : Rat) * 47 ≤ ((2 ^ 170 : Int) : Rat) := by decide +kernel
      have P0 : (0 : Rat) ≤ ((2 ^ 160 : Nat) : Rat) := Rat.natCast_nonneg
      have m1 := Rat.mul_le_mul_of_nonneg_left b1 P0
      have m2 := Rat.mul_le_mul_of_nonneg_left b2 P0
      rw [s2] at m1 m2
      constructor
      · have : ((-(2 ^ 170) : Int) : Rat) ≤ (S : Rat) := by
          rw [Rat.intCast_neg]
          generalize ((2 ^ 170 : Int) : Rat) = Q at *
          generalize ((2 ^ 160 : Nat) : Rat) = P at *
          grind
        exact Rat.intCast_le_intCast.mp this
      · have : (S : Rat) ≤ ((2 ^ 170 : Int) : Rat) := by
          generalize ((2 ^ 170 : Int) : Rat) = Q at *
          generalize ((2 ^ 160 : Nat) : Rat) = P at *
          grind
        exact Rat.intCast_le_intCast.mp this
    clear s2 s3 s4 s5 s1 o cp x8 ea eb
    have F := dw_find (u := w) (c := dwc S) dwc_mono (fun m x hx r1 r2 => by
      have e8 : (8 : Int64).toInt = 8 := rfl
      have e24 : (24304 : Int64).toInt = 24304 := rfl
      have e141 : (141 : Int64).toInt = 141 := rfl
      have ea : (24304 + m.toInt64).toInt = 24304 + m.toInt := by
        rw [Int64.toInt_add, e24, Int32.toInt_toInt64]; exact Int.bmod_eq_of_le (by omega) (by omega)
      have eb : (8 * (24304 + m.toInt64)).toInt = 8 * (24304 + m.toInt) := by
        rw [tI_mul (by rw [e8, ea]; omega) (by rw [e8, ea]; omega), e8, ea]
      have ec : (141 * m.toInt64).toInt = 141 * m.toInt := by
        rw [tI_mul (by rw [e141, Int32.toInt_toInt64]; omega) (by rw [e141, Int32.toInt_toInt64]; omega), e141, Int32.toInt_toInt64]
      have ub : un (8 * (24304 + m.toInt64)) = (8 * (24304 + m.toInt)).toNat := un_of (by rw [eb]; omega)
      have k := rb_ok (ab := 141 * m.toInt64) (be := 8 * (24304 + m.toInt64)) (u := x) (S := S) (n := 141 * m.toInt) (by rw [hx]; exact o8) (by rw [hx]; exact o9) ub (by omega) ec Sb.1 Sb.2 (by omega) (by omega)
      have ek : (((8 * (24304 + m.toInt)).toNat : Nat) : Int) = 8 * (24304 + m.toInt) := by omega
      rw [ek, hx] at k
      exact ⟨k.2.1, k.2.2⟩)
    clear o8 o9 Sb
    generalize dw_lo w = lo at F ⊢
    obtain ⟨f1, f2, f3, f4⟩ := F
    have q0 : ¬ q < 0 := fun x => by have := (i32_lt _ _).mp x; rw [show (0 : Int32).toInt = 0 from rfl] at this; omega
    have q9 : q ≤ 1000000000 := (i32_le _ _).mpr (by rw [show (1000000000 : Int32).toInt = 1000000000 from rfl]; exact c2)
    have V : vl_dw (fun t => pr_val t 10000 (fun _ => 0, fun _ => 0)) q = if pr_val (-4000) 10000 (fun _ => 0, fun _ => 0) ≤ q.toInt64 then (dws (fun t => pr_val t 10000 (fun _ => 0, fun _ => 0)) q 14 (-4000) 10001).toInt64 else -9223372036854775808 := (if_neg q0).trans (if_pos q9)
    rw [V]
    have em : (-4000 : Int32).toInt = -4000 := rfl
    have en : (10001 : Int32).toInt = 10001 := rfl
    have sm := same (-4000) (by decide) (by decide)
    have R : ∀ x : Int64, (x ≤ q.toInt64 ↔ x.toInt < ((q.toInt.toNat + 1 : Nat) : Int)) := fun x => by
      rw [i64_le, Int32.toInt_toInt64]; omega
    have dr : dw_r lo = if -4000 ≤ lo then lo.toInt64 else -9223372036854775808 := rfl
    rw [dr]
    by_cases g : pr_val (-4000) 10000 (fun _ => 0, fun _ => 0) ≤ q.toInt64
    · rw [if_pos g]
      have c4 : dwc S (-4000) := sm.mpr ((R _).mp g)
      have W := dws_find (pf := fun t => pr_val t 10000 (fun _ => 0, fun _ => 0)) (q := q) (r := dwc S) dwc_mono (fun m r1 r2 => by
        rw [same m r1 r2, ← R]
        exact (Int64.not_le).symm) 14 (-4000) 10001 (by decide) (by decide) (by decide) (by decide) c4 (fun m a b => absurd a (by rw [en]; omega))
      generalize dws (fun t => pr_val t 10000 (fun _ => 0, fun _ => 0)) q 14 (-4000) 10001 = x at W ⊢
      obtain ⟨w1, w2, w3, w4⟩ := W
      have lx : lo.toInt = x.toInt := by
        rcases Int.lt_trichotomy lo.toInt x.toInt with h | h | h
        · exact absurd w3 (f4 _ h w2)
        · exact h
        · rcases f3 with f | f
          · omega
          · exact absurd f (w4 _ h f2)
      have e : lo = x := Int32.toInt_inj.mp lx
      rw [e, if_pos ((i32_le _ _).mpr (by rw [em]; exact w1))]
    · rw [if_neg g]
      have nc : ¬ dwc S (-4000) := fun c => g ((R _).mpr (sm.mp c))
      refine if_neg (fun h => ?_)
      have h := (i32_le _ _).mp h
      rw [em] at h
      rcases f3 with f | f
      · omega
      · exact nc (dwc_mono _ _ h (by omega) f2 f)
