/-! EQ_dp -/
theorem pr_v8 {f : Nat} {w : Int32} {g : Nat → Int64} (hf : f ≤ 20) (h : -4000 ≤ w.toInt) (h2 : w.toInt ≤ 10000) : ok 8 (pr_x f w g) ∧ vv 8 (pr_x f w g) 24 = 17625 * (w.toInt.natAbs : Int) * 1000000 ^ f / (1000 * (24304 + w.toInt)) := by
  have ha : (pr_a w).toInt = (w.toInt.natAbs : Int) := by
    unfold pr_a
    have hz : (0 : Int32).toInt = 0 := rfl
    by_cases q : 0 ≤ w
    · rw [if_pos q]; have := (i32_le _ _).mp q; omega
    · rw [if_neg q, Int32.toInt_neg]
      have q2 : ¬ (0 : Int) ≤ w.toInt := fun z => q ((i32_le _ _).mpr (by rw [hz]; exact z))
      rw [Int.bmod_eq_of_le (by omega) (by omega)]; omega
  have e24 : (24304 : Int32).toInt = 24304 := rfl
  have es : (24304 + w).toInt = 24304 + w.toInt := by
    rw [Int32.toInt_add, e24]; exact Int.bmod_eq_of_le (by omega) (by omega)
  have e1000 : (1000 : Int64).toInt = 1000 := rfl
  have e17 : (17625 : Int64).toInt = 17625 := rfl
  have eq : (1000 * (24304 + w).toInt64).toInt = 1000 * (24304 + w.toInt) := by
    rw [tI_mul (by rw [e1000, Int32.toInt_toInt64, es]; omega) (by rw [e1000, Int32.toInt_toInt64, es]; omega), e1000, Int32.toInt_toInt64, es]
  have ev : (17625 * (pr_a w).toInt64).toInt = 17625 * (w.toInt.natAbs : Int) := by
    rw [tI_mul (by rw [e17, Int32.toInt_toInt64]; omega) (by rw [e17, Int32.toInt_toInt64]; omega), e17, Int32.toInt_toInt64, ha]
  obtain ⟨a, -, c⟩ := rat_ok (f := f) (r := 8) (v := 17625 * (pr_a w).toInt64) (q := 1000 * (24304 + w).toInt64) (g := g) hf (by omega) (by omega) (by omega) (by omega)
  refine ⟨a, ?_⟩
  show vv 8 (mr_by 8 (1000 * (24304 + w).toInt64) (mr_wh f 8 (17625 * (pr_a w).toInt64) g)) 24 = _
  rw [c, eq, ev]
theorem st_16 {X B : Int} (h0 : 0 ≤ X) (h : X ≤ 20 * B) : 16 * (X / 64) ≤ 5 * B := by omega
theorem be_63 {M B : Int} (h0 : 0 ≤ M) (h : M ≤ 1832820000000000000 * B) (hB : 0 < B) : M / 1000 < 2 ^ 63 * B := by omega
/-- what one pass of pressure says -/
theorem pr_say {w s : Int32} {f : Nat} {z : S2} (hf : f ≤ 18) (h : -4000 ≤ w.toInt) (h2 : w.toInt ≤ 10000) (s0 : 0 ≤ s.toInt) (s1 : s.toInt ≤ 10000) :
    ∃ k, k ≤ 700 ∧ pwT (1000000 ^ f) (17625 * (w.toInt.natAbs : Int) * 1000000 ^ f / (1000 * (24304 + w.toInt)) / 64) k = 0 ∧ (pr_V w s f z).toInt = pwQ (1000000 ^ f) (pwS (ng9 w) (1000000 ^ f) (17625 * (w.toInt.natAbs : Int) * 1000000 ^ f / (1000 * (24304 + w.toInt)) / 64) k) 6 * (61094 * s.toInt) / 1000 / 1000000 ^ f := by
  have hB := pw_pos f
  obtain ⟨a, c⟩ := pr_v8 (f := f) (g := z.1) (w := w) (by omega) h h2
  have X0 : 0 ≤ vv 8 (pr_x f w z.1) 24 := vv_nn a
  have hX : vv 8 (pr_x f w z.1) 24 ≤ 20 * 1000000 ^ f := by
    rw [c]
    have m := Int.mul_le_mul_of_nonneg_right (show 17625 * (w.toInt.natAbs : Int) ≤ 20 * (1000 * (24304 + w.toInt)) by omega) (Int.le_of_lt hB)
    refine Int.le_trans (Int.ediv_le_ediv (by omega) m) ?_
    rw [show 20 * (1000 * (24304 + w.toInt)) * (1000000 : Int) ^ f = 20 * 1000000 ^ f * (1000 * (24304 + w.toInt)) by generalize (1000000 : Int) ^ f = B; grind, Int.mul_ediv_cancel _ (by omega)]
    exact Int.le_refl _
  obtain ⟨k, k1, k2, k3, k4, k5⟩ := po_val (b := ng9 w) (p := z.2) hf a hX
  have hS := pwS_14 (b := ng9 w) (B := 1000000 ^ f) (st := vv 8 (pr_x f w z.1) 24 / 64) hB (Int.ediv_nonneg X0 (by decide)) (st_16 X0 hX) k
  rw [k2] at hS
  have hSn : 0 ≤ pwS (ng9 w) (1000000 ^ f) (vv 8 (pr_x f w z.1) 24 / 64) k := by
    obtain ⟨-, i2, i3, -⟩ := pw_val (b := ng9 w) (p := z.2) hf a hX k (by omega)
    obtain ⟨o0, -⟩ := pw_inv (b := ng9 w) (p := z.2) (show f ≤ 23 by omega) a (by omega) k (by omega)
    rw [← i2]; exact vv_nn o0
  obtain ⟨q0, q1⟩ := sq_14 hB hSn (by omega) 6
  rw [← c]
  refine ⟨k, k1, k2, ?_⟩
  generalize pwQ (1000000 ^ f) (pwS (ng9 w) (1000000 ^ f) (vv 8 (pr_x f w z.1) 24 / 64) k) 6 = Q at *
  have hQ : Q ≤ 3000000000 * 1000000 ^ f := by
    have e5 : (5 : Int) ^ (2 ^ 6) = 542101086242752217003726400434970855712890625 := by decide
    have e7 : (7 : Int) ^ (2 ^ 6) = 1219760487635835700138573862562971820755615294131238401 := by decide
    rw [e5, e7] at q1
    generalize (1000000 : Int) ^ f = B at *
    omega
  have e6 : (61094 : Int64).toInt = 61094 := rfl
  have em : (61094 * s.toInt64).toInt = 61094 * s.toInt := by
    rw [tI_mul (by rw [e6, Int32.toInt_toInt64]; omega) (by rw [e6, Int32.toInt_toInt64]; omega), e6, Int32.toInt_toInt64]
  have hQs : Q * (61094 * s.toInt) ≤ 1832820000000000000 * 1000000 ^ f := by
    have m1 := Int.mul_le_mul_of_nonneg_left (show 61094 * s.toInt ≤ 610940000 by omega) q0
    generalize Q * (61094 * s.toInt) = M at *
    generalize (1000000 : Int) ^ f = B at *
    omega
  have hQn : 0 ≤ Q * (61094 * s.toInt) := Int.mul_nonneg q0 (by omega)
  have t := tim_ok (r := 0) (m := 61094 * s.toInt64) k3 (by rw [em]; omega) (by rw [em]; omega)
  have room : Q * (61094 * s.toInt) < 1000000 ^ 24 := by
    have r1 := pw_one (f := f + 4) (by omega)
    have e : (1000000 : Int) ^ (f + 4) = 1000000 ^ f * 1000000000000000000000000 := by rw [Int.pow_add]; rfl
    rw [e] at r1
    generalize Q * (61094 * s.toInt) = M at *
    generalize (1000000 : Int) ^ f = B at *
    generalize (1000000 : Int) ^ 24 = P at *
    omega
  have tv := t.2.2 (by rw [k4, em]; exact room)
  rw [k4, em] at tv
  have e3 : (1000 : Int64).toInt = 1000 := rfl
  have d := by_ok (r := 0) (q := 1000) t.1 (by decide) (by decide)
  have dv := d.2.2
  rw [tv, e3] at dv
  have EV : pr_V w s f z = mr_be f 0 (mr_by 0 1000 (mr_tim 0 (61094 * s.toInt64) (po f (ng9 w) (pr_x f w z.1) z.2).1)) := rfl
  have hfb : f ≤ 24 := Nat.le_trans hf (by decide)
  have small : vv 0 (mr_by 0 1000 (mr_tim 0 (61094 * s.toInt64) (po f (ng9 w) (pr_x f w z.1) z.2).1)) 24 < 2 ^ 63 * 1000000 ^ f := by
    rw [dv]
    exact be_63 hQn hQs hB
  rw [EV, be_ok hfb d.1 small, dv]
theorem un_sl5 {a : Int64} (ha : un a < 2 ^ 47) : un (pu_sl a 5) = un a * 32 := by
  have e : un (pu_sl a 5) = (a.toBitVec <<< 5).toNat := rfl
  rw [e, BitVec.toNat_shiftLeft, Nat.shiftLeft_eq]
  show un a * 2 ^ 5 % 2 ^ 64 = _
  rw [Nat.mod_eq_of_lt (by omega)]
theorem un_of {x : Int64} {n : Nat} (h : x.toInt = (n : Int)) : un x = n := by
  have := toInt_un (x := x) (by omega)
  omega
theorem EQ_dp_ok : EQ_dp := by
  intro t h u z ⟨⟨l1, l2⟩, ⟨m1, m2⟩⟩
  have a := rg_of (lo' := -4000) (hi' := 10000) (by decide) (by decide) ⟨l1, l2⟩
  have b := rg_of (lo' := 0) (hi' := 10000) (by decide) (by decide) ⟨m1, m2⟩
  have r1 := (i64_le _ _).mp l1
  have r2 := (i64_le _ _).mp l2
  have r3 := (i64_le _ _).mp m1
  have r4 := (i64_le _ _).mp m2
  rw [Int32.toInt_toInt64] at r1 r2 r3 r4
  rw [show (-4000 : Int64).toInt = -4000 from rfl] at r1
  rw [show (10000 : Int64).toInt = 10000 from rfl] at r2 r4
  rw [show (0 : Int64).toInt = 0 from rfl] at r3
  have hv : vl_dp t h z = pr_val t h z := (if_neg (by
    rw [show is_wm t = 1 from (if_neg a.1).trans (if_neg (Int32.not_lt.mpr a.2))]; decide)).trans ((if_neg b.1).trans (if_pos b.2))
  rw [hv]
  have e6 : (61094 : Int64).toInt = 61094 := rfl
  have em : (61094 * h.toInt64).toInt = 61094 * h.toInt := by
    rw [tI_mul (by rw [e6, Int32.toInt_toInt64]; omega) (by rw [e6, Int32.toInt_toInt64]; omega), e6, Int32.toInt_toInt64]
  have um : un (61094 * h.toInt64) = 61094 * h.toInt.natAbs := un_of (by rw [em]; omega)
  by_cases ht : t = 0
  · subst ht
    have hp : pr_val 0 h z = 61094 * h.toInt64 / 1000 := if_pos rfl
    rw [hp]
    obtain ⟨o, v⟩ := raise_one (ab := 141 * (0 : Int32).toInt64) (be := 8 * (24304 + (0 : Int32).toInt64)) (u := u) (D := 6221824) (by decide) (by decide) (by decide) (by decide)
    have e : fn_r (61094 * h.toInt64) (rk_raise (141 * (0 : Int32).toInt64) (8 * (24304 + (0 : Int32).toInt64)) u) = 61094 * h.toInt64 := by
      apply un_inj
      rw [fn_ok o (by rw [um]; omega) (by rw [v, um]; omega), v, Nat.mul_div_cancel_left _ (by decide)]
    rw [e]
  · have e8 : (8 : Int64).toInt = 8 := rfl
    have e24 : (24304 : Int64).toInt = 24304 := rfl
    have e141 : (141 : Int64).toInt = 141 := rfl
    have ea : (24304 + t.toInt64).toInt = 24304 + t.toInt := by
      rw [Int64.toInt_add, e24, Int32.toInt_toInt64]; exact Int.bmod_eq_of_le (by omega) (by omega)
    have eb : (8 * (24304 + t.toInt64)).toInt = 8 * (24304 + t.toInt) := by
      rw [tI_mul (by rw [e8, ea]; omega) (by rw [e8, ea]; omega), e8, ea]
    have ec : (141 * t.toInt64).toInt = 141 * t.toInt := by
      rw [tI_mul (by rw [e141, Int32.toInt_toInt64]; omega) (by rw [e141, Int32.toInt_toInt64]; omega), e141, Int32.toInt_toInt64]
    have ht0 : t.toInt ≠ 0 := fun q => ht (Int32.toInt_inj.mp (by rw [q]; rfl))
    have ub : un (8 * (24304 + t.toInt64)) = (8 * (24304 + t.toInt)).toNat := un_of (by rw [eb]; omega)
    have ud : un (pu_sl (8 * (24304 + t.toInt64)) 5) = dp_D (decide (¬ ng9 t = 0)) t.toInt.natAbs := by
      rw [un_sl5 (by rw [ub]; omega), ub]
      have e1 : (0 : Int32).toInt = 0 := rfl
      unfold dp_D ng9
      by_cases c : 0 ≤ t
      · have c' := (i32_le _ _).mp c
        rw [if_pos c]
        show _ = 256 * (24304 + t.toInt.natAbs)
        omega
      · have c2 : ¬ (0 : Int32).toInt ≤ t.toInt := fun w => c ((i32_le _ _).mpr w)
        rw [if_neg c]
        show _ = 256 * (24304 - t.toInt.natAbs)
        omega
    have ua : un (pu_abl (141 * t.toInt64)) = dp_a t.toInt.natAbs := by
      rw [abl_unL (by omega) (by omega), ec]
      show _ = 141 * t.toInt.natAbs
      omega
    have hneg : decide (141 * t.toInt64 < 0) = decide (¬ ng9 t = 0) := ng_dec (by rw [ec]; omega)
    have t3 : decide (¬ ng9 t = 0) = true → t.toInt.natAbs ≤ 4000 := fun q => by
      have e1 : (0 : Int32).toInt = 0 := rfl
      by_cases c : 0 ≤ t
      · exfalso
        have : ng9 t = 0 := if_pos c
        rw [this] at q
        exact absurd q (by decide)
      · have c2 : ¬ (0 : Int32).toInt ≤ t.toInt := fun w => c ((i32_le _ _).mpr w)
        omega
    have hD : 0 < dp_D (decide (¬ ng9 t = 0)) t.toInt.natAbs ∧ dp_D (decide (¬ ng9 t = 0)) t.toInt.natAbs * 400 < 2 ^ 47 ∧ 8 * dp_a t.toInt.natAbs ≤ 5 * dp_D (decide (¬ ng9 t = 0)) t.toInt.natAbs := by
      rw [← ud, un_sl5 (by rw [ub]; omega), ub]
      show _ ∧ _ ∧ 8 * (141 * t.toInt.natAbs) ≤ _
      omega
    have ha31 : dp_a t.toInt.natAbs < 2 ^ 31 := by
      show 141 * t.toInt.natAbs < 2 ^ 31
      omega
    obtain ⟨k, k1, k2, q, q0, q1, q2, o, v⟩ := raise_val (u := u) ua ud ha31 hD.1 hD.2.1 hD.2.2
    rw [hneg] at q0
    by_cases hh : h = 0
    · subst hh
      have hp : pr_val t 0 z = 61094 * (0 : Int32).toInt64 / 1000 := (if_neg ht).trans (if_pos rfl)
      rw [hp]
      have e : fn_r (61094 * (0 : Int32).toInt64) (rk_raise (141 * t.toInt64) (8 * (24304 + t.toInt64)) u) = 0 := by
        apply un_inj
        have u0 : un (61094 * (0 : Int32).toInt64) = 0 := by decide
        rw [fn_ok o (by decide) (by rw [u0, Nat.mul_zero]; decide), u0, Nat.mul_zero]
        decide
      rw [e]
      decide
    · have hh0 : h.toInt ≠ 0 := fun q => hh (Int32.toInt_inj.mp (by rw [q]; rfl))
      have hp : pr_val t h z = m_val (pr_P t h) (pr_V t h) z := (if_neg ht).trans (if_neg hh)
      rw [hp]
      -- the class's number is small enough
      have hDr : (0 : Rat) < (dp_D (decide (¬ ng9 t = 0)) t.toInt.natAbs : Rat) := by
        have : ((0 : Nat) : Rat) < (dp_D (decide (¬ ng9 t = 0)) t.toInt.natAbs : Rat) := Rat.natCast_lt_natCast.mpr hD.1
        simpa using this
      have qb : q 5 ≤ 2 ^ 190 := by
        have hz9 : (dp_D (decide (¬ ng9 t = 0)) t.toInt.natAbs : Rat) * ((dp_a t.toInt.natAbs : Rat) / (dp_D (decide (¬ ng9 t = 0)) t.toInt.natAbs : Rat)) = (dp_a t.toInt.natAbs : Rat) := by
          generalize (dp_D (decide (¬ ng9 t = 0)) t.toInt.natAbs : Rat) = D at *
          have : D ≠ 0 := by grind
          grind
        have a0 : (0 : Rat) ≤ (dp_a t.toInt.natAbs : Rat) := Rat.natCast_nonneg
        generalize (dp_a t.toInt.natAbs : Rat) / (dp_D (decide (¬ ng9 t = 0)) t.toInt.natAbs : Rat) = zz at *
        have z0 : 0 ≤ zz := mul_cancel_le hDr (by grind)
        have z58 : zz ≤ 5/8 := by
          have r3 : ((8 * dp_a t.toInt.natAbs : Nat) : Rat) ≤ ((5 * dp_D (decide (¬ ng9 t = 0)) t.toInt.natAbs : Nat) : Rat) := Rat.natCast_le_natCast.mpr hD.2.2
          rw [Rat.natCast_mul, Rat.natCast_mul] at r3
          have c8 : ((8 : Nat) : Rat) = 8 := by simp
          have c5 : ((5 : Nat) : Rat) = 5 := by simp
          rw [c8, c5, ← hz9] at r3
          exact mul_cancel_le hDr (by grind)
        have cl := (cl_gen hD.1 hD.2.2 hz9 z0 k1 k2 q0 q2).2
        obtain ⟨yn, yx⟩ := eS_bd (b := decide (¬ ng9 t = 0)) z0 z58
        have b2 := rp_le yn yx 32
        have d : (15/8 : Rat) ^ 32 ≤ 600000000 := by decide +kernel
        have g9 := Rat.le_trans b2 d
        have : ((q 5 : Nat) : Rat) ≤ ((2 ^ 190 : Nat) : Rat) := by
          have d : ((2 ^ 160 : Nat) : Rat) * 600000000 + 20000000000000 ≤ ((2 ^ 190 : Nat) : Rat) := by decide +kernel
          have p : (0 : Rat) ≤ ((2 ^ 160 : Nat) : Rat) := Rat.natCast_nonneg
          generalize ((2 ^ 190 : Nat) : Rat) = P9 at *
          generalize ((2 ^ 160 : Nat) : Rat) = P at *
          generalize eS (sg (decide (¬ ng9 t = 0)) zz) 800 ^ 32 = Y at *
          have m := Rat.mul_le_mul_of_nonneg_right g9 p
          grind
        exact Rat.natCast_le_natCast.mp this
      have hq9 : q 5 * (61094 * h.toInt.natAbs) ≤ 2 ^ 190 * 610940000 := Nat.mul_le_mul qb (by omega)
      have cu : un (fn_r (61094 * h.toInt64) (rk_raise (141 * t.toInt64) (8 * (24304 + t.toInt64)) u)) = q 5 * (61094 * h.toInt.natAbs) / 2 ^ 160 := by
        rw [fn_ok o (by rw [um]; omega) (by rw [v, um]; exact Nat.lt_of_le_of_lt hq9 (by decide)), v, um]
      have hs : q 5 * (61094 * h.toInt.natAbs) / 2 ^ 160 < 2 ^ 63 := Nat.div_lt_of_lt_mul (Nat.lt_of_le_of_lt hq9 (by decide))
      have u1000 : un (1000 : Int64) = 1000 := by decide
      have cd : un (fn_r (61094 * h.toInt64) (rk_raise (141 * t.toInt64) (8 * (24304 + t.toInt64)) u) / 1000) = q 5 * (61094 * h.toInt.natAbs) / (2 ^ 160 * 1000) := by
        rw [un_div (by rw [cu]; exact hs) (by decide) (by decide), cu, u1000, Nat.div_div_eq_div_mul]
      have hs2 : q 5 * (61094 * h.toInt.natAbs) / (2 ^ 160 * 1000) < 2 ^ 63 := by
        rw [← Nat.div_div_eq_div_mul]
        exact Nat.lt_of_le_of_lt (Nat.div_le_self _ _) hs
      have ci := un_toInt (x := fn_r (61094 * h.toInt64) (rk_raise (141 * t.toInt64) (8 * (24304 + t.toInt64)) u) / 1000) (by rw [cd]; exact hs2)
      rw [cd] at ci
      apply Int64.toInt_inj.mp
      rw [ci]
      refine (m_val_i (fun f hf z => ?_) z).symm
      obtain ⟨k', n1, n2, n5⟩ := pr_say (w := t) (s := h) (f := f) (z := z) (by omega) r1 r2 r3 r4
      obtain ⟨bb, -⟩ := b66 hf
      have hB0 : (0 : Int) < 1000000 ^ f := pw_pos f
      rw [n5]
      have hM : (dp_D (decide (¬ ng9 t = 0)) t.toInt.natAbs : Int) = 256 * (24304 + t.toInt) := by
        have := ud
        rw [un_sl5 (by rw [ub]; omega), ub] at this
        omega
      have ha9 : ((dp_a t.toInt.natAbs : Nat) : Int) = 141 * (t.toInt.natAbs : Int) := by
        show ((141 * t.toInt.natAbs : Nat) : Int) = _
        omega
      have stx : 0 ≤ 17625 * (t.toInt.natAbs : Int) * 1000000 ^ f / (1000 * (24304 + t.toInt)) / 64 ∧ 2 * (17625 * (t.toInt.natAbs : Int) * 1000000 ^ f / (1000 * (24304 + t.toInt)) / 64) * (dp_D (decide (¬ ng9 t = 0)) t.toInt.natAbs : Int) ≤ dp_a t.toInt.natAbs * 1000000 ^ f ∧ dp_a t.toInt.natAbs * 1000000 ^ f ≤ (2 * (17625 * (t.toInt.natAbs : Int) * 1000000 ^ f / (1000 * (24304 + t.toInt)) / 64) + 4) * (dp_D (decide (¬ ng9 t = 0)) t.toInt.natAbs : Int) := by
        rw [hM, ha9]
        have hT : 0 ≤ (t.toInt.natAbs : Int) * 1000000 ^ f := Int.mul_nonneg (by omega) (Int.le_of_lt hB0)
        have eA : 17625 * (t.toInt.natAbs : Int) * 1000000 ^ f = 17625 * ((t.toInt.natAbs : Int) * 1000000 ^ f) := by grind
        have eB : 141 * (t.toInt.natAbs : Int) * 1000000 ^ f = 141 * ((t.toInt.natAbs : Int) * 1000000 ^ f) := by grind
        rw [eA, eB]
        generalize (t.toInt.natAbs : Int) * 1000000 ^ f = N at *
        have hM0 : 0 < 24304 + t.toInt := by omega
        generalize 24304 + t.toInt = M at *
        have d1 := Int.mul_ediv_self_le (x := 17625 * N) (k := 1000 * M) (by omega)
        have d2 := Int.lt_mul_ediv_self_add (x := 17625 * N) (k := 1000 * M) (by omega)
        have d0 : 0 ≤ 17625 * N / (1000 * M) := Int.ediv_nonneg (by omega) (by omega)
        generalize 17625 * N / (1000 * M) = X at *
        have f1 : 64 * (X / 64) ≤ X ∧ X ≤ 64 * (X / 64) + 63 := by omega
        generalize X / 64 = S at *
        have g1 := Int.mul_le_mul_of_nonneg_left f1.1 (Int.le_of_lt hM0)
        have g2 := Int.mul_le_mul_of_nonneg_left f1.2 (Int.le_of_lt hM0)
        have i1 : 1000 * M * X = 1000 * (M * X) := by grind
        have i2 : M * (64 * S) = 64 * (M * S) := by grind
        have i3 : M * (64 * S + 63) = 64 * (M * S) + 63 * M := by grind
        have i4 : 2 * S * (256 * M) = 512 * (M * S) := by grind
        have i5 : (2 * S + 4) * (256 * M) = 512 * (M * S) + 1024 * M := by grind
        rw [i1] at d1 d2
        rw [i2] at g1
        rw [i3] at g2
        rw [i4, i5]
        generalize M * X = MX at *
        generalize M * S = MS at *
        refine ⟨by omega, by omega, by omega⟩
      have fin := dp_fl (b := ng9 t) (t := t.toInt.natAbs) (h := h.toInt.natAbs) (by omega) (by omega) t3 (by omega) (by omega) k1 k2 q0 q2 bb n1 stx.1 stx.2.1 stx.2.2 n2
      have eh : ((h.toInt.natAbs : Nat) : Int) = h.toInt := by omega
      rw [fin, eh]
      have pn := pwQ_nn (1000000 ^ f) (pwS (ng9 t) (1000000 ^ f) (17625 * (t.toInt.natAbs : Int) * 1000000 ^ f / (1000 * (24304 + t.toInt)) / 64) k') hB0
      generalize pwQ (1000000 ^ f) (pwS (ng9 t) (1000000 ^ f) (17625 * (t.toInt.natAbs : Int) * 1000000 ^ f / (1000 * (24304 + t.toInt)) / 64) k') 6 = Q at *
      rw [Int.mul_comm (1000000 ^ f) 1000, ← Int.ediv_ediv_of_nonneg (by decide)]
