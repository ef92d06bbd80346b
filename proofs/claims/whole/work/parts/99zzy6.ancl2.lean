/-! the class's pointTo -/
theorem fa_int {l m n : Int} (h0 : 0 ≤ l) (h1 : l ≤ m) (h2 : 1 ≤ m) (hn : n = (8 * l + m) / (2 * m)) : 0 ≤ n ∧ n ≤ 4 ∧ 2 * (4 * l - n * m).natAbs ≤ m.natAbs ∧ 0 ≤ n * m ∧ n * m ≤ 4 * m ∧ 0 ≤ n * l ∧ n * l ≤ 4 * m := by
  have a1 := Int.ediv_nonneg (show 0 ≤ 8 * l + m by omega) (show 0 ≤ 2 * m by omega)
  have a2 := Int.mul_ediv_self_le (x := 8 * l + m) (k := 2 * m) (by omega)
  have a3 := Int.lt_mul_ediv_self_add (x := 8 * l + m) (k := 2 * m) (by omega)
  rw [← hn] at a1 a2 a3
  have n4 : n ≤ 4 := by
    by_cases c : n ≤ 4
    · exact c
    · exfalso
      have m5 := Int.mul_le_mul_of_nonneg_left (show 5 ≤ n by omega) (show 0 ≤ 2 * m by omega)
      generalize 2 * m * n = X at *
      omega
  have e : 2 * m * n = 2 * (n * m) := by grind
  rw [e] at a2 a3
  have b1 := Int.mul_nonneg a1 (show 0 ≤ m by omega)
  have b2 := Int.mul_le_mul_of_nonneg_right n4 (show 0 ≤ m by omega)
  have b3 := Int.mul_nonneg a1 h0
  have b4 := Int.mul_le_mul_of_nonneg_left h1 a1
  generalize n * m = X at *
  generalize n * l = Z at *
  refine ⟨a1, n4, ?_, b1, b2, b3, ?_⟩ <;> omega
theorem flat_val {le mo : Int64} {u : rk_U} {l m : Nat} (hl : le.toInt = (l : Int)) (hm : mo.toInt = (m : Int)) (lm : l ≤ m) (m1 : 1 ≤ m) (m9 : m ≤ 1000000) :
    okw (rk_flat le mo u 0) 7 ∧ ∃ (S : Int) (ψ : Rat), (uv (rk_flat le mo u 0) 7 : Int) = S % 2 ^ 224 ∧ nb ((S : Rat) - ((2 ^ 160 : Nat) : Rat) * ψ) 42 ∧ nb ψ 1 ∧ nb ((m : Rat) * ss ψ - (l : Rat) * cc ψ) (10 * u16 * (m : Rat)) ∧ (l = 0 → S = 0) := by
  have i8 : (8 : Int64).toInt = 8 := rfl
  have i2 : (2 : Int64).toInt = 2 := rfl
  have i4 : (4 : Int64).toInt = 4 := rfl
  have i0 : (0 : Int64).toInt = 0 := rfl
  have n1 : (8 * le + mo).toInt = 8 * (l : Int) + m := by
    have e : (8 * le).toInt = 8 * (l : Int) := by rw [tI_mul (by rw [i8, hl]; omega) (by rw [i8, hl]; omega), i8, hl]
    rw [tI_add (by rw [e, hm]; omega) (by rw [e, hm]; omega), e, hm]
  have n2 : (2 * mo).toInt = 2 * (m : Int) := by rw [tI_mul (by rw [i2, hm]; omega) (by rw [i2, hm]; omega), i2, hm]
  have n3 : (fa_n le mo).toInt = (8 * (l : Int) + m) / (2 * (m : Int)) := by
    unfold fa_n
    rw [tI_div (by rw [n1]; omega) (by rw [n2]; omega), n1, n2]
  obtain ⟨n, hn⟩ : ∃ n : Int, n = (8 * (l : Int) + m) / (2 * (m : Int)) := ⟨_, rfl⟩
  rw [← hn] at n3
  obtain ⟨f1, f2, f3, f4, f5, f6, f7⟩ := fa_int (show (0 : Int) ≤ (l : Int) by omega) (show (l : Int) ≤ m by omega) (show (1 : Int) ≤ m by omega) hn
  have nm : (fa_n le mo * mo).toInt = n * m := by rw [tI_mul (by rw [n3, hm]; omega) (by rw [n3, hm]; omega), n3, hm]
  have nl : (fa_n le mo * le).toInt = n * l := by rw [tI_mul (by rw [n3, hl]; omega) (by rw [n3, hl]; omega), n3, hl]
  have e4l : (4 * le).toInt = 4 * (l : Int) := by rw [tI_mul (by rw [i4, hl]; omega) (by rw [i4, hl]; omega), i4, hl]
  have e4m : (4 * mo).toInt = 4 * (m : Int) := by rw [tI_mul (by rw [i4, hm]; omega) (by rw [i4, hm]; omega), i4, hm]
  have ta : (fa_a le mo).toInt = 4 * (l : Int) - n * m := by
    unfold fa_a
    rw [tI_sub (by rw [e4l, nm]; omega) (by rw [e4l, nm]; omega), e4l, nm]
  have tb : (fa_b le mo).toInt = 4 * (m : Int) + n * l := by
    unfold fa_b
    rw [tI_add (by rw [e4m, nl]; omega) (by rw [e4m, nl]; omega), e4m, nl]
  obtain ⟨k, hk⟩ := Int.eq_ofNat_of_zero_le f1
  have k4 : k ≤ 4 := by omega
  obtain ⟨al, hal⟩ : ∃ al : Nat, al = (4 * (l : Int) - n * m).natAbs := ⟨_, rfl⟩
  obtain ⟨be, hbe⟩ : ∃ be : Nat, (be : Int) = 4 * (m : Int) + n * l := ⟨(4 * (m : Int) + n * l).toNat, by omega⟩
  rw [← hal] at f3
  have be0 : 0 < be := by omega
  have be4 : 4 * m ≤ be := by omega
  have be9 : be < 2 ^ 47 := by omega
  have al8 : 8 * al ≤ be := by omega
  have ua : un (pu_abl (fa_a le mo)) = al := by rw [abl_unL (by rw [ta]; omega) (by rw [ta]; omega), ta, hal]
  have ub : un (fa_b le mo) = be := un_of (by rw [tb, hbe])
  have pos : 0 < mo := (i64_lt _ _).mpr (by rw [i0, hm]; omega)
  have sgn : 0 ≤ fa_a le mo ↔ 0 ≤ 4 * (l : Int) - n * m := by rw [i64_le, i0, ta]
  have kr : (n : Rat) = (k : Rat) := by rw [hk]; rfl
  have alr : (if 0 ≤ 4 * (l : Int) - n * m then (1 : Rat) else -1) * (al : Rat) = 4 * (l : Rat) - (k : Rat) * (m : Rat) := by
    have e : ((4 * (l : Int) - n * m : Int) : Rat) = 4 * (l : Rat) - (k : Rat) * (m : Rat) := by
      rw [Rat.intCast_sub, Rat.intCast_mul, Rat.intCast_mul, kr]
      have e4 : ((4 : Int) : Rat) = 4 := by simp
      rw [e4]; rfl
    rw [← e]
    by_cases c : 0 ≤ 4 * (l : Int) - n * m
    · rw [if_pos c]
      have q : ((al : Int)) = 4 * (l : Int) - n * m := by omega
      have q2 : (((al : Nat) : Int) : Rat) = ((4 * (l : Int) - n * m : Int) : Rat) := by rw [q]
      have q3 : (al : Rat) = ((4 * (l : Int) - n * m : Int) : Rat) := q2
      rw [q3]; grind
    · rw [if_neg c]
      have q : ((al : Int)) = -(4 * (l : Int) - n * m) := by omega
      have q2 : (((al : Nat) : Int) : Rat) = ((-(4 * (l : Int) - n * m) : Int) : Rat) := by rw [q]
      have q3 : (al : Rat) = ((-(4 * (l : Int) - n * m) : Int) : Rat) := q2
      rw [q3, Rat.intCast_neg]; grind
  have ber : (be : Rat) = 4 * (m : Rat) + (k : Rat) * (l : Rat) := by
    have e : (((be : Nat) : Int) : Rat) = ((4 * (m : Int) + n * l : Int) : Rat) := by rw [hbe]
    have e1 : (be : Rat) = ((4 * (m : Int) + n * l : Int) : Rat) := e
    rw [e1, Rat.intCast_add, Rat.intCast_mul, Rat.intCast_mul, kr]
    have e4 : ((4 : Int) : Rat) = 4 := by simp
    rw [e4]; rfl
  have z0 : l = 0 → k = 0 ∧ al = 0 := fun h => by
    have e : n = 0 := by
      rw [hn, h]
      have : (8 * ((0 : Nat) : Int) + (m : Int)) / (2 * (m : Int)) = 0 := Int.ediv_eq_zero_of_lt (by omega) (by omega)
      exact this
    have : n * (m : Int) = 0 := by rw [e, Int.zero_mul]
    omega
  -- the walk
  have E : rk_flat le mo u = rk_add 0 3 (rk_lim 3 kc_A 35 ((fa_n le mo).toInt32 * 7) (rk_fl1 (fa_a le mo) (rk_odd 1 (rk_ratio 0 (pu_abl (fa_a le mo)) (fa_b le mo) u)))) := if_pos pos
  rw [E]
  have rt := ratw_ok (f := u (2 * 0)) (x := pu_abl (fa_a le mo)) (d := fa_b le mo) (by rw [ub]; exact be0) (by rw [ub]; exact be9)
  rw [ua, ub] at rt
  have A0 : rk_ratio 0 (pu_abl (fa_a le mo)) (fa_b le mo) u 0 = wr_rat (u (2 * 0)) (pu_abl (fa_a le mo)) (fa_b le mo) := vup_eq _ _ _
  rw [← A0] at rt
  obtain ⟨R, hR⟩ : ∃ R : Nat, R = al * 2 ^ 160 / be := ⟨_, rfl⟩
  rw [← hR] at rt
  have U0 : (0 : Rat) < ((2 ^ 160 : Nat) : Rat) := by decide +kernel
  obtain ⟨r, hr⟩ : ∃ r : Rat, ((2 ^ 160 : Nat) : Rat) * r = (R : Rat) := ⟨(R : Rat) / ((2 ^ 160 : Nat) : Rat), by
    generalize ((2 ^ 160 : Nat) : Rat) = U at *
    have : U ≠ 0 := by grind
    grind⟩
  have Rr0 : (0 : Rat) ≤ (R : Rat) := Rat.natCast_nonneg
  have r0 : 0 ≤ r := mul_cancel_le U0 (by grind)
  have ber0 : (0 : Rat) < (be : Rat) := by
    have : ((0 : Nat) : Rat) < (be : Rat) := Rat.natCast_lt_natCast.mpr be0
    simpa using this
  have al0 : (0 : Rat) ≤ (al : Rat) := Rat.natCast_nonneg
  obtain ⟨u0, u1, u2, -⟩ := u16_ok
  have dd := nd_le (al * 2 ^ 160) be be0
  rw [← hR, Rat.natCast_mul al, ← hr] at dd
  have hr1 : (be : Rat) * r ≤ (al : Rat) := by
    refine mul_cancel_le U0 ?_
    generalize ((2 ^ 160 : Nat) : Rat) = U at *
    have := dd.1
    grind
  have hr2 : (al : Rat) ≤ (be : Rat) * (r + u16) := by
    refine mul_cancel_le U0 ?_
    have d2 := dd.2
    have e : ((2 ^ 160 : Nat) : Rat) * ((be : Rat) * (r + u16)) = (be : Rat) * (((2 ^ 160 : Nat) : Rat) * r) + (be : Rat) * (((2 ^ 160 : Nat) : Rat) * u16) := by grind
    rw [e, u2]
    generalize ((2 ^ 160 : Nat) : Rat) = U at *
    grind
  have r8 : r ≤ 1/8 := by
    have a8 : ((8 * al : Nat) : Rat) ≤ (be : Rat) := Rat.natCast_le_natCast.mpr al8
    rw [Rat.natCast_mul] at a8
    have e8 : ((8 : Nat) : Rat) = 8 := by simp
    rw [e8] at a8
    exact mul_cancel_le ber0 (by grind)
  obtain ⟨o27, o27b⟩ := oE_27
  have od := odd_val (z := 1) (v := rk_ratio 0 (pu_abl (fa_a le mo)) (fa_b le mo) u) (kx := 27) (c := 1/8) rt.1 rt.2 hr r8 (by decide +kernel) o27b (by decide)
  have sg1 : sga 1 = -1 := rfl
  rw [sg1] at od
  obtain ⟨o1, S9, s1, s2⟩ := od
  have oz := fun h : R = 0 => odd_zero (z := 1) (v := rk_ratio 0 (pu_abl (fa_a le mo)) (fa_b le mo) u) rt.1 (by rw [rt.2]; exact h)
  have s2' := nb_mono s2 o27
  obtain ⟨S1, t1, t2, t3⟩ : ∃ S1 : Int, (uv (rk_odd 1 (rk_ratio 0 (pu_abl (fa_a le mo)) (fa_b le mo) u) 0) 7 : Int) = S1 % 2 ^ 224 ∧ nb ((S1 : Rat) - ((2 ^ 160 : Nat) : Rat) * oS (-1) r 400) 42 ∧ (R = 0 → S1 = 0) := by
    by_cases h : R = 0
    · refine ⟨0, ?_, ?_, fun _ => rfl⟩
      · rw [oz h]; rfl
      · have rz : r = 0 := by
          refine mul_inj U0 ?_
          rw [hr, h]
          have : ((0 : Nat) : Rat) = 0 := rfl
          rw [this]; grind
        rw [rz, oS_0]
        have e : ((0 : Int) : Rat) = 0 := rfl
        rw [e]
        generalize ((2 ^ 160 : Nat) : Rat) = U
        constructor <;> grind
    · exact ⟨S9, s1, s2', fun q => absurd q h⟩
  clear oz s1 s2 s2' rt A0 E
  generalize rk_odd 1 (rk_ratio 0 (pu_abl (fa_a le mo)) (fa_b le mo) u) = y at o1 t1 ⊢
  -- the sign
  have F : okw (rk_fl1 (fa_a le mo) y 0) 7 ∧ (uv (rk_fl1 (fa_a le mo) y 0) 7 : Int) = ((if 0 ≤ 4 * (l : Int) - n * m then (1 : Int) else -1) * S1) % 2 ^ 224 := by
    unfold rk_fl1
    by_cases c : 0 ≤ fa_a le mo
    · rw [if_pos c, if_pos (sgn.mp c), Int.one_mul]
      exact ⟨o1, t1⟩
    · rw [if_neg c, if_neg (fun z => c (sgn.mpr z))]
      have ng := negw_ok o1
      have v0 : rk_neg 0 y 0 = wr_neg (y 0) := vup_eq _ _ _
      rw [v0]
      refine ⟨ng.1, ?_⟩
      have lt := uv_lt 7 o1
      rw [show 32 * 7 = 224 from rfl] at lt
      rw [ng.2, em_neg t1 lt, show -1 * S1 = -S1 by omega]
  generalize rk_fl1 (fa_a le mo) y = y3 at F ⊢
  have la := lim_A (y3 (2 * 3)) (n := fa_n le mo) k4 (by rw [n3, hk])
  have B6 : rk_lim 3 kc_A 35 ((fa_n le mo).toInt32 * 7) y3 6 = wr_lim (y3 (2 * 3)) kc_A 35 ((fa_n le mo).toInt32 * 7) := vup_eq _ _ _
  have B0 : rk_lim 3 kc_A 35 ((fa_n le mo).toInt32 * 7) y3 0 = y3 0 := vup_ne _ _ (by decide)
  rw [← B6] at la
  rw [← B0] at F
  generalize rk_lim 3 kc_A 35 ((fa_n le mo).toInt32 * 7) y3 = y4 at la F ⊢
  have G0 : rk_add 0 3 y4 0 = wr_add (y4 0) (y4 6) := vup_eq _ _ _
  rw [G0]
  have ad := addw_ok F.1 la.1
  rw [la.2] at ad
  have adv : (uv (wr_add (y4 0) (y4 6)) 7 : Int) = ((if 0 ≤ 4 * (l : Int) - n * m then (1 : Int) else -1) * S1 + (aAn k : Int)) % 2 ^ 224 := by rw [ad.2]; exact em_add F.2
  have σc : ((if 0 ≤ 4 * (l : Int) - n * m then (1 : Int) else -1 : Int) : Rat) = if 0 ≤ 4 * (l : Int) - n * m then (1 : Rat) else -1 := by split <;> rfl
  have σh : (if 0 ≤ 4 * (l : Int) - n * m then (1 : Rat) else -1) = 1 ∨ (if 0 ≤ 4 * (l : Int) - n * m then (1 : Rat) else -1) = -1 := by
    split
    · exact Or.inl rfl
    · exact Or.inr rfl
  have l0r : (0 : Rat) ≤ (l : Rat) := Rat.natCast_nonneg
  have lmr : (l : Rat) ≤ (m : Rat) := Rat.natCast_le_natCast.mpr lm
  have m1r : (1 : Rat) ≤ (m : Rat) := by
    have : ((1 : Nat) : Rat) ≤ (m : Rat) := Rat.natCast_le_natCast.mpr m1
    simpa using this
  rw [ber] at hr1 hr2
  obtain ⟨q1, q2⟩ := fl_true k4 l0r lmr m1r σh alr al0 r0 r8 hr1 hr2 rfl rfl
  refine ⟨ad.1, _, aAr k + (if 0 ≤ 4 * (l : Int) - n * m then (1 : Rat) else -1) * oS (-1) r 400, adv, ?_, q1, q2, fun h => ?_⟩
  · rw [Rat.intCast_add, Rat.intCast_mul, σc]
    have ea : ((2 ^ 160 : Nat) : Rat) * aAr k = (aAn k : Rat) := by
      unfold aAr
      generalize ((2 ^ 160 : Nat) : Rat) = U at *
      have : U ≠ 0 := by grind
      grind
    have ec : (((aAn k : Nat) : Int) : Rat) = (aAn k : Rat) := rfl
    rw [ec, ← ea]
    clear q1 q2 alr hr1 hr2
    generalize ((2 ^ 160 : Nat) : Rat) = U at *
    generalize aAr k = A at *
    generalize oS (-1) r 400 = W at *
    obtain ⟨x1, x2⟩ := t2
    rcases σh with c | c <;> rw [c] <;> constructor <;> grind
  · obtain ⟨h1, h2⟩ := z0 h
    have R0 : R = 0 := by rw [hR, h2, Nat.zero_mul, Nat.zero_div]
    rw [t3 R0, h1, Int.mul_zero]
    rfl
/-- a quarter, or two, less register 0 -/
theorem neg_h {w : rk_U} {S : Int} (o : okw (w 0) 7) (hS : (uv (w 0) 7 : Int) = S % 2 ^ 224) : okw (rk_add 0 3 (rk_lim 3 kc_H 7 0 (rk_neg 0 w)) 0) 7 ∧ (uv (rk_add 0 3 (rk_lim 3 kc_H 7 0 (rk_neg 0 w)) 0) 7 : Int) = (-S + (hpn : Int)) % 2 ^ 224 := by
  have ng := negw_ok o
  have lt := uv_lt 7 o
  rw [show 32 * 7 = 224 from rfl] at lt
  have v0 : rk_neg 0 w 0 = wr_neg (w 0) := vup_eq _ _ _
  have ngv : (uv (wr_neg (w 0)) 7 : Int) = (-S) % 2 ^ 224 := by rw [ng.2]; exact em_neg hS lt
  rw [← v0] at ng ngv
  generalize rk_neg 0 w = y3 at *
  have la := lim_H (y3 (2 * 3))
  have B6 : rk_lim 3 kc_H 7 0 y3 6 = wr_lim (y3 (2 * 3)) kc_H 7 0 := vup_eq _ _ _
  have B0 : rk_lim 3 kc_H 7 0 y3 0 = y3 0 := vup_ne _ _ (by decide)
  rw [← B6] at la
  rw [← B0] at ng ngv
  generalize rk_lim 3 kc_H 7 0 y3 = y4 at *
  have G0 : rk_add 0 3 y4 0 = wr_add (y4 0) (y4 6) := vup_eq _ _ _
  rw [G0]
  have ad := addw_ok ng.1 la.1
  rw [la.2] at ad
  exact ⟨ad.1, by rw [ad.2]; exact em_add ngv⟩
theorem neg_2h {w : rk_U} {S : Int} (o : okw (w 0) 7) (hS : (uv (w 0) 7 : Int) = S % 2 ^ 224) : okw (rk_add 0 3 (rk_scl 3 2 (rk_lim 3 kc_H 7 0 (rk_neg 0 w))) 0) 7 ∧ (uv (rk_add 0 3 (rk_scl 3 2 (rk_lim 3 kc_H 7 0 (rk_neg 0 w))) 0) 7 : Int) = (-S + ((hpn * 2 : Nat) : Int)) % 2 ^ 224 := by
  have ng := negw_ok o
  have lt := uv_lt 7 o
  rw [show 32 * 7 = 224 from rfl] at lt
  have v0 : rk_neg 0 w 0 = wr_neg (w 0) := vup_eq _ _ _
  have ngv : (uv (wr_neg (w 0)) 7 : Int) = (-S) % 2 ^ 224 := by rw [ng.2]; exact em_neg hS lt
  rw [← v0] at ng ngv
  generalize rk_neg 0 w = y3 at *
  have la := lim_H (y3 (2 * 3))
  have B6 : rk_lim 3 kc_H 7 0 y3 6 = wr_lim (y3 (2 * 3)) kc_H 7 0 := vup_eq _ _ _
  have B0 : rk_lim 3 kc_H 7 0 y3 0 = y3 0 := vup_ne _ _ (by decide)
  rw [← B6] at la
  rw [← B0] at ng ngv
  generalize rk_lim 3 kc_H 7 0 y3 = y4 at *
  have u2 : un (2 : Int64) = 2 := by decide
  have sc := scl_ok (k := 2) la.1 (by decide)
  rw [la.2, u2, Nat.mod_eq_of_lt (by decide)] at sc
  have C6 : rk_scl 3 2 y4 6 = wr_scl (y4 (2 * 3)) 2 := vup_eq _ _ _
  have C0 : rk_scl 3 2 y4 0 = y4 0 := vup_ne _ _ (by decide)
  have sc' : okw (rk_scl 3 2 y4 6) 7 ∧ uv (rk_scl 3 2 y4 6) 7 = hpn * 2 := by rw [C6]; exact sc
  rw [← C0] at ng ngv
  generalize rk_scl 3 2 y4 = y5 at *
  have G0 : rk_add 0 3 y5 0 = wr_add (y5 0) (y5 6) := vup_eq _ _ _
  rw [G0]
  have ad := addw_ok ng.1 sc'.1
  rw [sc'.2] at ad
  exact ⟨ad.1, by rw [ad.2]; exact em_add ngv⟩
def pS2 (X Y : Nat) (S : Int) : Int := if Y ≤ X then S else -S + (hpn : Int)
def pS3 (x : Int) (S : Int) : Int := if 0 ≤ x then S else -S + ((hpn * 2 : Nat) : Int)
def pS4 (y : Int) (S : Int) : Int := if 0 ≤ y then S else -S
theorem pt_val {x y : Int32} {u : rk_U} (hx1 : -1000000 ≤ x.toInt) (hx2 : x.toInt ≤ 1000000) (hy1 : -1000000 ≤ y.toInt) (hy2 : y.toInt ≤ 1000000) (h00 : ¬ (x.toInt = 0 ∧ y.toInt = 0)) :
    okw (rk_point y x u 0) 7 ∧ ∃ (S : Int) (ψ : Rat), (uv (rk_point y x u 0) 7 : Int) = pS4 y.toInt (pS3 x.toInt (pS2 x.toInt.natAbs y.toInt.natAbs S)) % 2 ^ 224 ∧ nb ((S : Rat) - ((2 ^ 160 : Nat) : Rat) * ψ) 42 ∧ nb ψ 1 ∧ (if y.toInt.natAbs ≤ x.toInt.natAbs then nb ((x.toInt.natAbs : Rat) * ss ψ - (y.toInt.natAbs : Rat) * cc ψ) (10 * u16 * (x.toInt.natAbs : Rat)) else nb ((y.toInt.natAbs : Rat) * ss ψ - (x.toInt.natAbs : Rat) * cc ψ) (10 * u16 * (y.toInt.natAbs : Rat))) ∧ (y.toInt = 0 → S = 0) := by
  have ux : un (pt_t x) = x.toInt.natAbs := abl_un (by omega) (by omega)
  have uy : un (pt_t y) = y.toInt.natAbs := abl_un (by omega) (by omega)
  have tx : (pt_t x).toInt = (x.toInt.natAbs : Int) := by rw [un_toInt (by rw [ux]; omega), ux]
  have ty : (pt_t y).toInt = (y.toInt.natAbs : Int) := by rw [un_toInt (by rw [uy]; omega), uy]
  have ile : pt_t y ≤ pt_t x ↔ y.toInt.natAbs ≤ x.toInt.natAbs := by rw [i64_le, tx, ty]; omega
  have ilt1 : pt_t x < pt_t y ↔ x.toInt.natAbs < y.toInt.natAbs := by rw [i64_lt, tx, ty]; omega
  have ilt2 : pt_t y < pt_t x ↔ y.toInt.natAbs < x.toInt.natAbs := by rw [i64_lt, tx, ty]; omega
  have hz : (0 : Int32).toInt = 0 := rfl
  have ix : 0 ≤ x ↔ 0 ≤ x.toInt := by rw [i32_le, hz]
  have iy : 0 ≤ y ↔ 0 ≤ y.toInt := by rw [i32_le, hz]
  have E : rk_point y x u = rk_pt3 y (rk_pt2 x (rk_pt1 y x (rk_flat (pt_le y x) (pt_mo y x) u))) := rfl
  rw [E]
  have fl : okw (rk_flat (pt_le y x) (pt_mo y x) u 0) 7 ∧ ∃ (S : Int) (ψ : Rat), (uv (rk_flat (pt_le y x) (pt_mo y x) u 0) 7 : Int) = S % 2 ^ 224 ∧ nb ((S : Rat) - ((2 ^ 160 : Nat) : Rat) * ψ) 42 ∧ nb ψ 1 ∧ (if y.toInt.natAbs ≤ x.toInt.natAbs then nb ((x.toInt.natAbs : Rat) * ss ψ - (y.toInt.natAbs : Rat) * cc ψ) (10 * u16 * (x.toInt.natAbs : Rat)) else nb ((y.toInt.natAbs : Rat) * ss ψ - (x.toInt.natAbs : Rat) * cc ψ) (10 * u16 * (y.toInt.natAbs : Rat))) ∧ (y.toInt = 0 → S = 0) := by
    by_cases c : y.toInt.natAbs ≤ x.toInt.natAbs
    · have e1 : pt_le y x = pt_t y := if_neg (fun q => by have := ilt1.mp q; omega)
      have e2 : (pt_mo y x).toInt = (x.toInt.natAbs : Int) := by
        unfold pt_mo
        by_cases d : pt_t y < pt_t x
        · rw [if_pos d, tx]
        · rw [if_neg d, ty]
          have : ¬ y.toInt.natAbs < x.toInt.natAbs := fun q => d (ilt2.mpr q)
          omega
      obtain ⟨a1, S, ψ, a2, a3, a4, a5, a6⟩ := flat_val (le := pt_le y x) (mo := pt_mo y x) (u := u) (l := y.toInt.natAbs) (m := x.toInt.natAbs) (by rw [e1, ty]) e2 c (by omega) (by omega)
      refine ⟨a1, S, ψ, a2, a3, a4, ?_, fun h => a6 (by omega)⟩
      rw [if_pos c]; exact a5
    · have e1 : pt_le y x = pt_t x := if_pos (ilt1.mpr (by omega))
      have e2 : pt_mo y x = pt_t y := if_neg (fun q => by have := ilt2.mp q; omega)
      obtain ⟨a1, S, ψ, a2, a3, a4, a5, a6⟩ := flat_val (le := pt_le y x) (mo := pt_mo y x) (u := u) (l := x.toInt.natAbs) (m := y.toInt.natAbs) (by rw [e1, tx]) (by rw [e2, ty]) (by omega) (by omega) (by omega)
      refine ⟨a1, S, ψ, a2, a3, a4, ?_, fun h => by omega⟩
      rw [if_neg c]; exact a5
  obtain ⟨f1, S, ψ, f2, f3, f4, f5, f6⟩ := fl
  generalize rk_flat (pt_le y x) (pt_mo y x) u = w at *
  have P1 : okw (rk_pt1 y x w 0) 7 ∧ (uv (rk_pt1 y x w 0) 7 : Int) = pS2 x.toInt.natAbs y.toInt.natAbs S % 2 ^ 224 := by
    unfold rk_pt1 pS2
    by_cases c : y.toInt.natAbs ≤ x.toInt.natAbs
    · rw [if_pos (ile.mpr c), if_pos c]; exact ⟨f1, f2⟩
    · rw [if_neg (fun q => c (ile.mp q)), if_neg c]; exact neg_h f1 f2
  generalize rk_pt1 y x w = w1 at *
  generalize hSa : pS2 x.toInt.natAbs y.toInt.natAbs S = Sa at *
  have P2 : okw (rk_pt2 x w1 0) 7 ∧ (uv (rk_pt2 x w1 0) 7 : Int) = pS3 x.toInt Sa % 2 ^ 224 := by
    unfold rk_pt2 pS3
    by_cases c : 0 ≤ x.toInt
    · rw [if_pos (ix.mpr c), if_pos c]; exact P1
    · rw [if_neg (fun q => c (ix.mp q)), if_neg c]; exact neg_2h P1.1 P1.2
  generalize rk_pt2 x w1 = w2' at *
  generalize hSb : pS3 x.toInt Sa = Sb at *
  have P3 : okw (rk_pt3 y w2' 0) 7 ∧ (uv (rk_pt3 y w2' 0) 7 : Int) = pS4 y.toInt Sb % 2 ^ 224 := by
    unfold rk_pt3 pS4
    by_cases c : 0 ≤ y.toInt
    · rw [if_pos (iy.mpr c), if_pos c]; exact P2
    · rw [if_neg (fun q => c (iy.mp q)), if_neg c]
      have ng := negw_ok P2.1
      have lt := uv_lt 7 P2.1
      rw [show 32 * 7 = 224 from rfl] at lt
      have v0 : rk_neg 0 w2' 0 = wr_neg (w2' 0) := vup_eq _ _ _
      rw [v0]
      exact ⟨ng.1, by rw [ng.2]; exact em_neg P2.2 lt⟩
  exact ⟨P3.1, S, ψ, by rw [hSa, hSb]; exact P3.2, f3, f4, f5, f6⟩
