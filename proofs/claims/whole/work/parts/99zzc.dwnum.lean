/-! dew: the pressure at a warmth lies between two whole numbers -/
theorem ee_pw {x : Rat} (hx : nb x (5/8)) (h3 : nb (ee x) 3) : ∀ n : Nat, n ≤ 32 → nb (ee x ^ n - ee ((n : Rat) * x)) (4 ^ n * t4)
  | 0, _ => by
    have e0 : ((0 : Nat) : Rat) = 0 := rfl
    rw [e0, show (0 : Rat) * x = 0 by grind, ee_0, Rat.pow_zero, Rat.pow_zero]
    have t := t4_0
    exact ⟨by grind, by grind⟩
  | n + 1, hn => by
    have i1 := ee_pw hx h3 n (by omega)
    have n0 : (0 : Rat) ≤ (n : Rat) := Rat.natCast_nonneg
    have n5 : (n : Rat) ≤ 31 := by
      have : (n : Rat) ≤ ((31 : Nat) : Rat) := Rat.natCast_le_natCast.mpr (by omega)
      simpa using this
    have en : ((n + 1 : Nat) : Rat) = (n : Rat) + 1 := by simp
    have nx : nb ((n : Rat) * x) 31 := by
      have k := nb_mul (show nb (n : Rat) 31 from ⟨by grind, n5⟩) hx
      exact nb_mono k (by decide +kernel)
    have k := ee_add nx hx (by decide +kernel)
    rw [en, show ((n : Rat) + 1) * x = (n : Rat) * x + x by grind, Rat.pow_succ, Rat.pow_succ]
    have m1 := nb_mul i1 h3
    have s := nb_add m1 k
    have p3 : (1 : Rat) ≤ 4 ^ n := rp_ge (by decide +kernel) n
    have t := t4_0
    have y3 := Rat.mul_le_mul_of_nonneg_right p3 t
    generalize ee ((n : Rat) * x) = A at *
    generalize ee x = B at *
    generalize ee ((n : Rat) * x + x) = C at *
    generalize B ^ n = Q at *
    generalize (4 : Rat) ^ n = P at *
    generalize t4 = τ at *
    have e : (Q - A) * B + (A * B - C) = Q * B - C := by grind
    rw [e] at s
    obtain ⟨s1, s2⟩ := s
    constructor <;> grind
theorem ee_mono {x y : Rat} (h0 : 0 ≤ x) (h : x ≤ y) : ∀ n, eS x n ≤ eS y n
  | 0 => Rat.le_refl
  | n + 1 => by
    have a := ee_mono h0 h n
    have b := eT_mono h0 h (n + 1)
    have e1 : eS x (n + 1) = eS x n + eT x (n + 1) := rfl
    have e2 : eS y (n + 1) = eS y n + eT y (n + 1) := rfl
    grind
theorem ee_6 : ee 6 ≤ 1000 := by
  have k := ee_cut (x := 6) (n := 40) (by decide +kernel) (by decide) (by decide +kernel)
  have h : eS 6 40 + eT 6 40 ≤ 1000 := by decide +kernel
  generalize ee 6 = A at *
  generalize eS 6 40 = B at *
  generalize eT 6 40 = C at *
  have := k.2
  grind
theorem ee_le6 {y : Rat} (h : nb y 6) : ee y ≤ 1000 := by
  rcases (show 0 ≤ y ∨ y ≤ 0 by grind) with q | q
  · exact Rat.le_trans (ee_mono q h.2 800) ee_6
  · have k := ee_np q h (by decide +kernel)
    have t := t4_1
    grind
/-- the pressure's power as ee -/
theorem dw_pw {b : Bool} {z y : Rat} (z0 : 0 ≤ z) (z1 : z ≤ 3/16) (hy : y = 32 * sg b z) : nb y 6 ∧ nb (610940 * eS (sg b z) 800 ^ 32 - 610940 * ee y) (1/1000000000000) := by
  have zb : nb (sg b z) (3/16) := by
    cases b with
    | false => exact ⟨by show _ ≤ z; grind, z1⟩
    | true => exact ⟨by show _ ≤ -z; grind, by show -z ≤ _; grind⟩
  obtain ⟨y0, y1⟩ := eS_bd (b := b) z0 (show z ≤ 5/8 by grind)
  have k := ee_pw (x := sg b z) (nb_mono zb (by decide +kernel)) ⟨by show _ ≤ eS (sg b z) 800; grind, by show eS (sg b z) 800 ≤ _; grind⟩ 32 (by decide)
  have e : ((32 : Nat) : Rat) = 32 := by simp
  rw [e, ← hy] at k
  have d : 610940 * (4 ^ 32 * t4) ≤ 1/1000000000000 := by decide +kernel
  refine ⟨⟨by have := zb.1; grind, by have := zb.2; grind⟩, ?_⟩
  have e2 : ee (sg b z) = eS (sg b z) 800 := rfl
  rw [e2] at k
  generalize eS (sg b z) 800 ^ 32 = A at *
  generalize ee y = B at *
  generalize 4 ^ 32 * t4 = C at *
  obtain ⟨k1, k2⟩ := k
  constructor <;> grind
theorem q_pos {D : Nat} (h : 0 < D) : (0 : Rat) < (D : Rat) := by
  have : ((0 : Nat) : Rat) < (D : Rat) := Rat.natCast_lt_natCast.mpr h
  simpa using this
theorem dw_flo {Q N T : Rat} (n1 : 1461501637330902918203684832716283019655932542976 * 1000 * N ≤ Q * 610940000) (n2 : Q * 610940000 ≤ 1461501637330902918203684832716283019655932542976 * 1000 * N + 1461501637330902918203684832716283019655932542976 * 1000) (l1 : -20000000000000 ≤ Q - 1461501637330902918203684832716283019655932542976 * T) (l2 : Q - 1461501637330902918203684832716283019655932542976 * T ≤ 20000000000000) (ni0 : ¬ nb (61094/1000 * 10000 * T - N) (1/68719476736)) (ni1 : ¬ nb (61094/1000 * 10000 * T - (N + 1)) (1/68719476736)) : N + 1/137438953472 ≤ 610940 * T ∧ 610940 * T + 1/137438953472 ≤ N + 1 := by
  have a1 : N - 1/1000000000000 ≤ 610940 * T := by grind
  have a2 : 610940 * T ≤ N + 1 + 1/1000000000000 := by grind
  have e : 61094/1000 * 10000 * T = 610940 * T := by grind
  rw [e] at ni0 ni1
  generalize 610940 * T = V at *
  clear n1 n2 l1 l2 e
  constructor
  · refine Decidable.byContradiction (fun w => ni0 ⟨?_, ?_⟩)
    · grind
    · grind
  · refine Decidable.byContradiction (fun w => ni1 ⟨?_, ?_⟩)
    · grind
    · grind
/-- damp at the full share: between two whole numbers -/
theorem dw_num {t : Int32} (z9 : S2) (r1 : -4000 ≤ t.toInt) (r2 : t.toInt ≤ 10000) (ht0 : t.toInt ≠ 0) :
    ∃ (N : Nat) (z : Rat), ((dp_D (decide (t.toInt < 0)) t.toInt.natAbs : Nat) : Rat) * z = (dp_a t.toInt.natAbs : Rat) ∧ 0 ≤ z ∧ z ≤ 3/16 ∧ (pr_val t 10000 z9).toInt = (N : Int) ∧ (N : Rat) + 1/137438953472 ≤ 610940 * eS (sg (decide (t.toInt < 0)) z) 800 ^ 32 ∧ 610940 * eS (sg (decide (t.toInt < 0)) z) 800 ^ 32 + 1/137438953472 ≤ (N : Rat) + 1 := by
  have e0 : (0 : Int32).toInt = 0 := rfl
  have hv : vl_dp t 10000 z9 = pr_val t 10000 z9 := by
    have n1 : ¬ t < -4000 := fun q => by have := (i32_lt _ _).mp q; rw [show (-4000 : Int32).toInt = -4000 from rfl] at this; omega
    have n2 : ¬ 10000 < t := fun q => by have := (i32_lt _ _).mp q; rw [show (10000 : Int32).toInt = 10000 from rfl] at this; omega
    exact (if_neg (by
      rw [show is_wm t = 1 from (if_neg n1).trans (if_neg n2)]; decide)).trans ((if_neg (by decide)).trans (if_pos (by decide)))
  have eq := EQ_dp_ok t 10000 (fun _ _ => 0) z9 ⟨⟨(i64_le _ _).mpr (by rw [Int32.toInt_toInt64]; exact r1), (i64_le _ _).mpr (by rw [Int32.toInt_toInt64]; exact r2)⟩, by decide, by decide⟩
  rw [hv] at eq
  rw [← eq]
  clear eq hv
  have e8 : (8 : Int64).toInt = 8 := rfl
  have e24 : (24304 : Int64).toInt = 24304 := rfl
  have e141 : (141 : Int64).toInt = 141 := rfl
  have ea : (24304 + t.toInt64).toInt = 24304 + t.toInt := by
    rw [Int64.toInt_add, e24, Int32.toInt_toInt64]; exact Int.bmod_eq_of_le (by omega) (by omega)
  have eb : (8 * (24304 + t.toInt64)).toInt = 8 * (24304 + t.toInt) := by
    rw [tI_mul (by rw [e8, ea]; omega) (by rw [e8, ea]; omega), e8, ea]
  have ec : (141 * t.toInt64).toInt = 141 * t.toInt := by
    rw [tI_mul (by rw [e141, Int32.toInt_toInt64]; omega) (by rw [e141, Int32.toInt_toInt64]; omega), e141, Int32.toInt_toInt64]
  have ub : un (8 * (24304 + t.toInt64)) = (8 * (24304 + t.toInt)).toNat := un_of (by rw [eb]; omega)
  have um : un (61094 * (10000 : Int32).toInt64) = 610940000 := by decide
  have dD : dp_D (decide (t.toInt < 0)) t.toInt.natAbs = (256 * (24304 + t.toInt)).toNat := by
    unfold dp_D
    by_cases c : t.toInt < 0
    · rw [decide_eq_true c]
      show 256 * (24304 - t.toInt.natAbs) = _
      omega
    · rw [decide_eq_false c]
      show 256 * (24304 + t.toInt.natAbs) = _
      omega
  have ud : un (pu_sl (8 * (24304 + t.toInt64)) 5) = dp_D (decide (t.toInt < 0)) t.toInt.natAbs := by
    rw [un_sl5 (by rw [ub]; omega), ub, dD]
    omega
  have ua : un (pu_abl (141 * t.toInt64)) = dp_a t.toInt.natAbs := by
    rw [abl_unL (by omega) (by omega), ec]
    show _ = 141 * t.toInt.natAbs
    omega
  have hneg : decide (141 * t.toInt64 < 0) = decide (t.toInt < 0) := by
    have i : 141 * t.toInt64 < 0 ↔ t.toInt < 0 := by
      rw [i64_lt, ec, show (0 : Int64).toInt = 0 from rfl]; omega
    exact decide_eq_decide.mpr i
  have da : dp_a t.toInt.natAbs = 141 * t.toInt.natAbs := rfl
  have t3 : decide (t.toInt < 0) = true → t.toInt.natAbs ≤ 4000 := fun q => by
    have := of_decide_eq_true q
    omega
  have ev := dp_every (decide (t.toInt < 0)) t.toInt.natAbs (by omega) (by omega) t3
  generalize hbb : decide (t.toInt < 0) = b at *
  have hD : 0 < dp_D b t.toInt.natAbs ∧ dp_D b t.toInt.natAbs * 400 < 2 ^ 47 ∧ 8 * dp_a t.toInt.natAbs ≤ 5 * dp_D b t.toInt.natAbs ∧ 16 * dp_a t.toInt.natAbs ≤ 3 * dp_D b t.toInt.natAbs := by
    rw [dD, da]; omega
  have ha31 : dp_a t.toInt.natAbs < 2 ^ 31 := by rw [da]; omega
  obtain ⟨k, k1, k2, q, q0, q1, q2, o, v⟩ := raise_val (u := fun _ _ => 0) ua ud ha31 hD.1 hD.2.1 hD.2.2.1
  rw [hneg] at q0
  have hDr := q_pos hD.1
  have hz9 : (dp_D b t.toInt.natAbs : Rat) * ((dp_a t.toInt.natAbs : Rat) / (dp_D b t.toInt.natAbs : Rat)) = (dp_a t.toInt.natAbs : Rat) := by
    generalize (dp_D b t.toInt.natAbs : Rat) = D at *
    have : D ≠ 0 := by grind
    grind
  have a0 : (0 : Rat) ≤ (dp_a t.toInt.natAbs : Rat) := Rat.natCast_nonneg
  generalize (dp_a t.toInt.natAbs : Rat) / (dp_D b t.toInt.natAbs : Rat) = z at hz9
  have z0 : 0 ≤ z := mul_cancel_le hDr (by rw [hz9]; grind)
  have z3 : z ≤ 3/16 := by
    have r3 : ((16 * dp_a t.toInt.natAbs : Nat) : Rat) ≤ ((3 * dp_D b t.toInt.natAbs : Nat) : Rat) := Rat.natCast_le_natCast.mpr hD.2.2.2
    rw [Rat.natCast_mul, Rat.natCast_mul] at r3
    have c8 : ((16 : Nat) : Rat) = 16 := by simp
    have c5 : ((3 : Nat) : Rat) = 3 := by simp
    rw [c8, c5, ← hz9] at r3
    exact mul_cancel_le hDr (by grind)
  have cl := cl_gen hD.1 hD.2.2.1 hz9 z0 k1 k2 q0 q2
  obtain ⟨yn, yx⟩ := eS_bd (b := b) z0 (show z ≤ 5/8 by grind)
  have b2 := rp_le yn yx 32
  have d9 : (15/8 : Rat) ^ 32 ≤ 600000000 := by decide +kernel
  have g9 := Rat.le_trans b2 d9
  have ni := fun k => dp_ni (b := b) (t := t.toInt.natAbs) (z := z) hD.1 hD.2.2.1 hz9 z0 ev 10000 (by decide) (by decide) k
  generalize hT : eS (sg b z) 800 ^ 32 = T at *
  have qb : q 5 ≤ 2 ^ 190 := by
    have : ((q 5 : Nat) : Rat) ≤ ((2 ^ 190 : Nat) : Rat) := by
      have d : ((2 ^ 160 : Nat) : Rat) * 600000000 + 20000000000000 ≤ ((2 ^ 190 : Nat) : Rat) := by decide +kernel
      have p : (0 : Rat) ≤ ((2 ^ 160 : Nat) : Rat) := Rat.natCast_nonneg
      generalize ((2 ^ 190 : Nat) : Rat) = P9 at *
      generalize ((2 ^ 160 : Nat) : Rat) = P at *
      have m := Rat.mul_le_mul_of_nonneg_right g9 p
      have := cl.2
      grind
    exact Rat.natCast_le_natCast.mp this
  have hq9 : q 5 * 610940000 ≤ 2 ^ 190 * 610940000 := Nat.mul_le_mul qb (Nat.le_refl _)
  have cu : un (fn_r (61094 * (10000 : Int32).toInt64) (rk_raise (141 * t.toInt64) (8 * (24304 + t.toInt64)) (fun _ _ => 0))) = q 5 * 610940000 / 2 ^ 160 := by
    rw [fn_ok o (by rw [um]; decide) (by rw [v, um]; exact Nat.lt_of_le_of_lt hq9 (by decide)), v, um]
  have hs : q 5 * 610940000 / 2 ^ 160 < 2 ^ 63 := Nat.div_lt_of_lt_mul (Nat.lt_of_le_of_lt hq9 (by decide))
  have u1000 : un (1000 : Int64) = 1000 := by decide
  have cd : un (fn_r (61094 * (10000 : Int32).toInt64) (rk_raise (141 * t.toInt64) (8 * (24304 + t.toInt64)) (fun _ _ => 0)) / 1000) = q 5 * 610940000 / (2 ^ 160 * 1000) := by
    rw [un_div (by rw [cu]; exact hs) (by decide) (by decide), cu, u1000, Nat.div_div_eq_div_mul]
  have hs2 : q 5 * 610940000 / (2 ^ 160 * 1000) < 2 ^ 63 := by
    rw [← Nat.div_div_eq_div_mul]
    exact Nat.lt_of_le_of_lt (Nat.div_le_self _ _) hs
  have ci := un_toInt (x := fn_r (61094 * (10000 : Int32).toInt64) (rk_raise (141 * t.toInt64) (8 * (24304 + t.toInt64)) (fun _ _ => 0)) / 1000) (by rw [cd]; exact hs2)
  rw [cd] at ci
  refine ⟨q 5 * 610940000 / (2 ^ 160 * 1000), z, hz9, z0, z3, ci, ?_⟩
  obtain ⟨n1, n2⟩ := nd_le (q 5 * 610940000) (2 ^ 160 * 1000) (by decide)
  have ni0 := ni (q 5 * 610940000 / (2 ^ 160 * 1000))
  have ni1 := ni (q 5 * 610940000 / (2 ^ 160 * 1000) + 1)
  clear ni ci cd hs2 hs cu hq9
  rw [Rat.natCast_add] at ni1
  generalize ((q 5 * 610940000 / (2 ^ 160 * 1000) : Nat) : Rat) = N at *
  rw [Rat.natCast_mul (q 5) 610940000] at n1 n2
  generalize ((q 5 : Nat) : Rat) = Q at *
  rw [Rat.natCast_mul] at n1 n2
  have c1 : ((610940000 : Nat) : Rat) = 610940000 := by simp
  have c2 : ((1000 : Nat) : Rat) = 1000 := by simp
  have c3 : ((10000 : Nat) : Rat) = 10000 := by simp
  have c4 : ((1 : Nat) : Rat) = 1 := by simp
  rw [c1, c2] at n1 n2
  rw [c3] at ni0 ni1
  rw [c4] at ni1
  have cP : ((2 ^ 160 : Nat) : Rat) = 1461501637330902918203684832716283019655932542976 := by decide +kernel
  rw [cP] at n1 n2 cl
  obtain ⟨l1, l2⟩ := cl
  rw [hT]
  exact dw_flo n1 n2 l1 l2 ni0 ni1
