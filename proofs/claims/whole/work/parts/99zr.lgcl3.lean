/-! the class's logarithm -/
def lnn : Nat := 1013035739299659071135698605846798551586536899366
theorem lim_L (f : Nat → Int64) : okw (wr_lim f kc_L 7 0) 7 ∧ uv (wr_lim f kc_L 7 0) 7 = lnn := by
  unfold wr_lim
  rw [ir_eq]
  have e0 : ∀ j, j < 7 → wd_lim kc_L 7 0 j = kc_L j := by decide +kernel
  have e : ∀ j, j < 7 → wd_cp f (wd_lim kc_L 7 0) 7 j = kc_L j := fun j hj => by
    unfold wd_cp
    rw [if_pos hj]
    exact e0 j hj
  have o : ∀ j, j < 7 → un (kc_L j) < 2 ^ 32 := by decide +kernel
  exact ⟨fun j hj => by rw [e j hj]; exact o j hj, (uv_cong 7 e).trans (by decide +kernel)⟩
theorem abi_un {d : Int32} {n : Int} (hd : d.toInt = n) (h1 : -100 ≤ n) (h2 : n ≤ 100) : un ((pu_abi d).toInt64) = n.natAbs := by
  unfold pu_abi
  have hz : (0 : Int32).toInt = 0 := rfl
  by_cases q : 0 ≤ d
  · have q2 := (i32_le _ _).mp q
    rw [if_pos q]
    exact un_of (by rw [Int32.toInt_toInt64, hd]; omega)
  · have q2 : ¬ (0 : Int) ≤ d.toInt := fun w => q ((i32_le _ _).mpr (by rw [hz]; exact w))
    rw [if_neg q]
    refine un_of ?_
    rw [Int32.toInt_toInt64, Int32.toInt_neg, hd, Int.bmod_eq_of_le (by omega) (by omega)]
    omega
theorem z_317 {p q m : Nat} (h1 : 7 * q < 10 * p) (h2 : 5 * p ≤ 7 * q) (hm : (m : Int) = ((p : Int) - (q : Int)).natAbs) : 17 * m ≤ 3 * (p + q) := by omega
theorem lg_32 : ((2 ^ 160 : Nat) : Rat) * (3/17) ^ (2 * 32 + 1) < 1 := by decide +kernel
def lsg (p q : Nat) : Int := if q ≤ p then 1 else -1
theorem odd_zero {z : Int32} {v : rk_U} (o0 : okw (v 0) 7) (h : uv (v 0) 7 = 0) : uv (rk_odd z v 0) 7 = 0 := by
  have s0 : rk_mul 5 2 0 (rk_cpy 2 0 (rk_cpy 1 0 v)) 0 = v 0 := (vup_ne _ _ (by decide)).trans ((vup_ne _ _ (by decide)).trans ((vup_ne _ _ (by decide)).trans (vup_ne _ _ (by decide))))
  have s2 : rk_mul 5 2 0 (rk_cpy 2 0 (rk_cpy 1 0 v)) 2 = wr_cp (v (2 * 1)) (v 0) := (vup_ne _ _ (by decide)).trans ((vup_ne _ _ (by decide)).trans ((vup_ne _ _ (by decide)).trans (vup_eq _ _ _)))
  have c1 := cpw_ok (f := v (2 * 1)) o0
  rw [← s2, h] at c1
  have E : rk_odd z v = rk_it (rk_oB z) (rk_stop (fun i => wr_z (rk_it (rk_oB z) i (rk_mul 5 2 0 (rk_cpy 2 0 (rk_cpy 1 0 v))) 2)) 199 0) (rk_mul 5 2 0 (rk_cpy 2 0 (rk_cpy 1 0 v))) := rfl
  rw [E]
  generalize rk_mul 5 2 0 (rk_cpy 2 0 (rk_cpy 1 0 v)) = w at *
  have st := stop_ok (fun i => wr_z (rk_it (rk_oB z) i w 2)) 199 0 0 ((zw_ok c1.1).mpr c1.2) (Nat.le_refl _) (by decide)
  generalize rk_stop (fun i => wr_z (rk_it (rk_oB z) i w 2)) 199 0 = k at *
  have k0 : k = 0 := by omega
  subst k0
  show uv (w 0) 7 = 0
  rw [s0]; exact h
/-- the class's number for the logarithm of a / b -/
theorem log_val {ab be : Int64} {u : rk_U} {a b : Nat} (ea : un ab = a) (eb : un be = b) (a1 : 1 ≤ a) (a2 : a ≤ 1000000000000) (b1 : 1 ≤ b) (b2 : b ≤ 1000000000000) :
    okw (rk_log ab be u 0) 7 ∧ ∃ (n1 n2 p q m R : Nat) (r : Rat) (S1 : Int), n1 ≤ 40 ∧ n2 ≤ 41 ∧ p = a * 2 ^ n2 ∧ q = b * 2 ^ n1 ∧ 7 * q < 10 * p ∧ 5 * p ≤ 7 * q ∧ p ≤ 2000000000000 ∧ q ≤ 2000000000000 ∧ m = ((p : Int) - (q : Int)).natAbs ∧ R = m * 2 ^ 160 / (p + q) ∧ ((2 ^ 160 : Nat) : Rat) * r = (R : Rat) ∧ 0 ≤ r ∧ r ≤ 3/17 ∧ nb ((S1 : Rat) - ((2 ^ 160 : Nat) : Rat) * oS 1 r 400) (oE 32 + 1) ∧ (R = 0 → S1 = 0) ∧ (uv (rk_log ab be u 0) 7 : Int) = (lsg p q * (2 * S1) + ((n1 : Int) - (n2 : Int)) * (lnn : Int)) % 2 ^ 224 := by
  obtain ⟨n1, n2, c1, c2, uP, uQ, c3, c4, dD, c5, c6⟩ := tl_val ea eb a1 a2 b1 b2
  have E : rk_log ab be u = rk_log2 (tl_D ab be) (rk_log1 (tl_P ab be) (tl_Q ab be) u) := rfl
  rw [E]
  have pp : 1 ≤ a * 2 ^ n2 := Nat.mul_pos a1 (Nat.two_pow_pos _)
  have qp : 1 ≤ b * 2 ^ n1 := Nat.mul_pos b1 (Nat.two_pow_pos _)
  generalize tl_P ab be = P at *
  generalize tl_Q ab be = Q at *
  generalize tl_D ab be = D at *
  generalize hp : a * 2 ^ n2 = p at *
  generalize hq : b * 2 ^ n1 = q at *
  have tP : P.toInt = (p : Int) := by rw [un_toInt (by rw [uP]; omega), uP]
  have tQ : Q.toInt = (q : Int) := by rw [un_toInt (by rw [uQ]; omega), uQ]
  have tPQ : (P - Q).toInt = (p : Int) - (q : Int) := by
    rw [tI_sub (by rw [tP, tQ]; omega) (by rw [tP, tQ]; omega), tP, tQ]
  have um : un (pu_abl (P - Q)) = ((p : Int) - (q : Int)).natAbs := by rw [abl_unL (by omega) (by omega), tPQ]
  have us : un (P + Q) = p + q := by rw [un_add, uP, uQ, Nat.mod_eq_of_lt (by omega)]
  obtain ⟨m, hm⟩ : ∃ m : Nat, m = ((p : Int) - (q : Int)).natAbs := ⟨_, rfl⟩
  rw [← hm] at um
  have h317 := z_317 (m := m) c3 c4 (by rw [hm])
  -- the ratio
  have rt := ratw_ok (f := u (2 * 0)) (x := pu_abl (P - Q)) (d := P + Q) (by rw [us]; omega) (by rw [us]; omega)
  rw [um, us] at rt
  obtain ⟨R, hR⟩ : ∃ R : Nat, R = m * 2 ^ 160 / (p + q) := ⟨_, rfl⟩
  rw [← hR] at rt
  have A0 : rk_ratio 0 (pu_abl (P - Q)) (P + Q) u 0 = wr_rat (u (2 * 0)) (pu_abl (P - Q)) (P + Q) := vup_eq _ _ _
  rw [← A0] at rt
  have U0 : (0 : Rat) < ((2 ^ 160 : Nat) : Rat) := by decide +kernel
  have hr : ((2 ^ 160 : Nat) : Rat) * ((R : Rat) / ((2 ^ 160 : Nat) : Rat)) = (R : Rat) := by
    generalize ((2 ^ 160 : Nat) : Rat) = U at *
    have : U ≠ 0 := by grind
    grind
  generalize (R : Rat) / ((2 ^ 160 : Nat) : Rat) = r at hr
  have Rr0 : (0 : Rat) ≤ (R : Rat) := Rat.natCast_nonneg
  have r0 : 0 ≤ r := mul_cancel_le U0 (by grind)
  have r317 : r ≤ 3/17 := by
    have k := (nd_le (m * 2 ^ 160) (p + q) (by omega)).1
    rw [← hR, Rat.natCast_mul m] at k
    have h3 : ((17 * m : Nat) : Rat) ≤ ((3 * (p + q) : Nat) : Rat) := Rat.natCast_le_natCast.mpr h317
    rw [Rat.natCast_mul, Rat.natCast_mul] at h3
    have e17 : ((17 : Nat) : Rat) = 17 := by simp
    have e3 : ((3 : Nat) : Rat) = 3 := by simp
    rw [e17, e3] at h3
    have pq0 : (0 : Rat) < ((p + q : Nat) : Rat) := by
      have : ((0 : Nat) : Rat) < ((p + q : Nat) : Rat) := Rat.natCast_lt_natCast.mpr (by omega)
      simpa using this
    rw [← hr] at k
    generalize ((p + q : Nat) : Rat) = s at *
    generalize ((2 ^ 160 : Nat) : Rat) = U at *
    have x := Rat.mul_le_mul_of_nonneg_right h3 (Rat.le_of_lt U0)
    have sU := Rat.mul_pos pq0 U0
    exact mul_cancel_le sU (by grind)
  have od := odd_val (z := 0) (v := rk_ratio 0 (pu_abl (P - Q)) (P + Q) u) (kx := 32) (c := 3/17) rt.1 rt.2 hr r317 (by decide +kernel) lg_32 (by decide)
  have sg1 : sga 0 = 1 := rfl
  rw [sg1] at od
  obtain ⟨o1, S9, s1, s2⟩ := od
  -- where the ratio is nought the sum is nought
  have oz := fun h : R = 0 => odd_zero (z := 0) (v := rk_ratio 0 (pu_abl (P - Q)) (P + Q) u) rt.1 (by rw [rt.2]; exact h)
  obtain ⟨S1, t1, t2, t3⟩ : ∃ S1 : Int, (uv (rk_odd 0 (rk_ratio 0 (pu_abl (P - Q)) (P + Q) u) 0) 7 : Int) = S1 % 2 ^ 224 ∧ nb ((S1 : Rat) - ((2 ^ 160 : Nat) : Rat) * oS 1 r 400) (oE 32 + 1) ∧ (R = 0 → S1 = 0) := by
    by_cases h : R = 0
    · refine ⟨0, ?_, ?_, fun _ => rfl⟩
      · rw [oz h]; rfl
      · have rz : r = 0 := by
          refine mul_inj U0 ?_
          rw [hr, h]
          have : ((0 : Nat) : Rat) = 0 := rfl
          rw [this]; grind
        rw [rz, oS_0]
        have e : ((0 : Int) : Rat) = 0 := rfl
        rw [e]
        have p := oE_mono 0 32
        rw [Nat.zero_add] at p
        have e2 : oE 0 = 0 := rfl
        rw [e2] at p
        generalize ((2 ^ 160 : Nat) : Rat) = U
        generalize oE 32 = W at *
        constructor <;> grind
    · exact ⟨S9, s1, s2, fun q => absurd q h⟩
  clear oz s1 s2 rt A0
  have L1 : rk_log1 P Q u = if Q ≤ P then rk_scl 0 2 (rk_odd 0 (rk_ratio 0 (pu_abl (P - Q)) (P + Q) u)) else rk_neg 0 (rk_scl 0 2 (rk_odd 0 (rk_ratio 0 (pu_abl (P - Q)) (P + Q) u))) := rfl
  rw [L1]
  clear L1 E
  generalize rk_odd 0 (rk_ratio 0 (pu_abl (P - Q)) (P + Q) u) = y at o1 t1 ⊢
  have le : Q ≤ P ↔ q ≤ p := by rw [un_le (by rw [uQ]; omega) (by rw [uP]; omega), uQ, uP]
  have sc := scl_ok (k := 2) o1 (by decide)
  have u2 : un (2 : Int64) = 2 := by decide
  have w0 : rk_scl 0 2 y 0 = wr_scl (y 0) 2 := vup_eq _ _ _
  rw [← w0, u2] at sc
  have sc2 : (uv (rk_scl 0 2 y 0) 7 : Int) = (2 * S1) % 2 ^ 224 := by
    rw [sc.2]
    have k := em_mul (m := 2) t1
    rw [k, show S1 * ((2 : Nat) : Int) = 2 * S1 by omega]
  generalize rk_scl 0 2 y = y2 at sc sc2 ⊢
  -- its sign
  have F : okw ((if Q ≤ P then y2 else rk_neg 0 y2) 0) 7 ∧ (uv ((if Q ≤ P then y2 else rk_neg 0 y2) 0) 7 : Int) = (lsg p q * (2 * S1)) % 2 ^ 224 := by
    unfold lsg
    by_cases c : Q ≤ P
    · rw [if_pos c, if_pos (le.mp c), Int.one_mul]
      exact ⟨sc.1, sc2⟩
    · rw [if_neg c, if_neg (fun z => c (le.mpr z))]
      have n := negw_ok sc.1
      have v0 : rk_neg 0 y2 0 = wr_neg (y2 0) := vup_eq _ _ _
      rw [v0]
      refine ⟨n.1, ?_⟩
      have l := uv_lt 7 sc.1
      rw [show 32 * 7 = 224 from rfl] at l
      rw [n.2, em_neg sc2 l, show -1 * (2 * S1) = -(2 * S1) by omega]
  generalize (if Q ≤ P then y2 else rk_neg 0 y2) = y3 at F ⊢
  -- the doublings
  have l := lim_L (y3 (2 * 3))
  have B6 : rk_lim 3 kc_L 7 0 y3 6 = wr_lim (y3 (2 * 3)) kc_L 7 0 := vup_eq _ _ _
  have B0 : rk_lim 3 kc_L 7 0 y3 0 = y3 0 := vup_ne _ _ (by decide)
  have E2 : rk_log2 D y3 = rk_as 0 3 (if 0 ≤ D then 0 else 1) (rk_scl 3 (pu_abi D).toInt64 (rk_lim 3 kc_L 7 0 y3)) := rfl
  rw [E2]
  rw [← B6] at l
  rw [← B0] at F
  generalize rk_lim 3 kc_L 7 0 y3 = y4 at l F ⊢
  have ud := abi_un dD (by omega) (by omega)
  have s3 := scl_ok (k := (pu_abi D).toInt64) l.1 (by rw [ud]; omega)
  have hn41 : ((n1 : Int) - (n2 : Int)).natAbs ≤ 41 := by omega
  have hh : lnn * ((n1 : Int) - (n2 : Int)).natAbs < 2 ^ 224 := Nat.lt_of_le_of_lt (Nat.mul_le_mul_left lnn hn41) (by decide)
  rw [l.2, ud, Nat.mod_eq_of_lt hh] at s3
  have C6 : rk_scl 3 (pu_abi D).toInt64 y4 6 = wr_scl (y4 (2 * 3)) (pu_abi D).toInt64 := vup_eq _ _ _
  have C0 : rk_scl 3 (pu_abi D).toInt64 y4 0 = y4 0 := vup_ne _ _ (by decide)
  have s3' : okw (rk_scl 3 (pu_abi D).toInt64 y4 6) 7 ∧ uv (rk_scl 3 (pu_abi D).toInt64 y4 6) 7 = lnn * ((n1 : Int) - (n2 : Int)).natAbs := by rw [C6]; exact s3
  rw [← C0] at F
  generalize rk_scl 3 (pu_abi D).toInt64 y4 = y5 at F s3' ⊢
  have G0 : ∀ z : Int32, rk_as 0 3 z y5 0 = wr_as (y5 0) (y5 6) z := fun z => vup_eq _ _ _
  rw [G0]
  have hz : (0 : Int32).toInt = 0 := rfl
  have fin : okw (wr_as (y5 0) (y5 6) (if 0 ≤ D then 0 else 1)) 7 ∧ (uv (wr_as (y5 0) (y5 6) (if 0 ≤ D then 0 else 1)) 7 : Int) = (lsg p q * (2 * S1) + ((n1 : Int) - (n2 : Int)) * (lnn : Int)) % 2 ^ 224 := by
    by_cases c : 0 ≤ D
    · have c' := (i32_le _ _).mp c
      rw [hz, dD] at c'
      rw [if_pos c]
      have k := asw_add F.1 s3'.1
      refine ⟨k.1, ?_⟩
      rw [k.2, em_add F.2, s3'.2]
      have e : ((lnn * ((n1 : Int) - (n2 : Int)).natAbs : Nat) : Int) = ((n1 : Int) - (n2 : Int)) * (lnn : Int) := by
        rw [Int.natCast_mul, show ((((n1 : Int) - (n2 : Int)).natAbs : Nat) : Int) = (n1 : Int) - (n2 : Int) by omega, Int.mul_comm]
      rw [e]
    · have c' : ¬ (0 : Int) ≤ D.toInt := fun w => c ((i32_le _ _).mpr (by rw [hz]; exact w))
      rw [dD] at c'
      rw [if_neg c]
      have k := asw_sub F.1 s3'.1
      refine ⟨k.1, ?_⟩
      rw [k.2, em_sub F.2 (by rw [s3'.2]; omega), s3'.2]
      have e : ((lnn * ((n1 : Int) - (n2 : Int)).natAbs : Nat) : Int) = -(((n1 : Int) - (n2 : Int)) * (lnn : Int)) := by
        rw [Int.natCast_mul, show ((((n1 : Int) - (n2 : Int)).natAbs : Nat) : Int) = -((n1 : Int) - (n2 : Int)) by omega, Int.mul_neg, Int.mul_comm]
      rw [e, Int.sub_neg]
  exact ⟨fin.1, n1, n2, p, q, m, R, r, S1, c1, c2, hp.symm, hq.symm, c3, c4, c5, c6, hm, hR, hr, r0, r317, t2, t3, fin.2⟩
