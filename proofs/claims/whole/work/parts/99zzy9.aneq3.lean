/-! EQ_an proved -/
theorem ag_val_i {y x : Int32} {n : Int} (h : ∀ f, (f = 11 ∨ f = 17) → ∀ g, (ag_V y x f g).toInt = n) (g : Nat → Int64) : (ag_val y x g).toInt = n := by
  unfold ag_val
  split
  · exact h 11 (Or.inl rfl) g
  · exact h 17 (Or.inr rfl) _
theorem an_eq {y x : Int32} {u : rk_U} {g : Nat → Int64} (hx1 : -1000000 ≤ x.toInt) (hx2 : x.toInt ≤ 1000000) (hy1 : -1000000 ≤ y.toInt) (hy2 : y.toInt ≤ 1000000) (h00 : ¬ (x.toInt = 0 ∧ y.toInt = 0)) (hp : y.toInt = 0 → x.toInt < 0) : fn_r 1000000000 (rk_point y x u) = ag_val y x g := by
  obtain ⟨o, S, ψc, s1, s2, s3, s4, -⟩ := pt_val (u := u) hx1 hx2 hy1 hy2 h00
  have X9 : x.toInt.natAbs ≤ 1000000 := by omega
  have Y9 : y.toInt.natAbs ≤ 1000000 := by omega
  obtain ⟨u0, u1, u2, -⟩ := u16_ok
  obtain ⟨-, -, w3, w4, -⟩ := u16_e
  obtain ⟨-, -, hh3, -⟩ := hpr_bd
  have U0 : (0 : Rat) < ((2 ^ 160 : Nat) : Rat) := by decide +kernel
  -- against one pass of the reference
  have clo : ∀ f, (f = 11 ∨ f = 17) → ∀ g, ∃ φ : Rat, (0 ≤ φ ∧ φ ≤ 31415926536/10000000000) ∧ nb ((x.toInt : Rat) * ss φ - (y.toInt.natAbs : Rat) * cc φ) (1/50 * u16) ∧ (x.toInt < 0 → y.toInt = 0 → 2 ≤ φ) ∧ (((1000000 : Int) ^ f : Int) : Rat) * ((ag_V y x f g).toInt : Rat) ≤ (((1000000 : Int) ^ f : Int) : Rat) * (1000000000 * (if 0 ≤ y.toInt then φ else -φ)) ∧ (((1000000 : Int) ^ f : Int) : Rat) * (1000000000 * (if 0 ≤ y.toInt then φ else -φ)) ≤ (((1000000 : Int) ^ f : Int) : Rat) * ((ag_V y x f g).toInt : Rat) + (((1000000 : Int) ^ f : Int) : Rat) ∧ nb ((pS4 y.toInt (pS3 x.toInt (pS2 x.toInt.natAbs y.toInt.natAbs S)) : Rat) * u16 - (if 0 ≤ y.toInt then φ else -φ)) (90 * u16) := fun f hf g => by
    obtain ⟨φ1, ψ, φ, n1, n2, n3, n4, n5⟩ := ag_say (g := g) hf hx1 hx2 hy1 hy2 h00
    obtain ⟨c1, c2, c3⟩ := an_cross hf X9 Y9 n1 n2 n3
    obtain ⟨-, -, hb3, -, -, hb6⟩ := har_bd hf
    rw [w3] at hb3
    rw [w4] at hb6
    refine ⟨φ, c1, c2, c3, n4, n5, ?_⟩
    have d0 : nb ((S : Rat) * u16 - ψc) (42 * u16) := by
      have m := nb_mul s2 (show nb u16 u16 from ⟨by grind, by grind⟩)
      rw [show ((S : Rat) - ((2 ^ 160 : Nat) : Rat) * ψc) * u16 = (S : Rat) * u16 - (((2 ^ 160 : Nat) : Rat) * u16) * ψc by grind, u2] at m
      rw [show (S : Rat) * u16 - 1 * ψc = (S : Rat) * u16 - ψc by grind] at m
      exact m
    have hpu : (hpn : Rat) * u16 = hpr := by
      rw [← hh3, show ((2 ^ 160 : Nat) : Rat) * hpr * u16 = (((2 ^ 160 : Nat) : Rat) * u16) * hpr by grind, u2]
      grind
    have d1 : nb (ψc - φ1) (35 * u16) := by
      by_cases c : y.toInt.natAbs ≤ x.toInt.natAbs
      · rw [if_pos c] at n2 s4
        have m1 : (1 : Rat) ≤ (x.toInt.natAbs : Rat) := by
          have : ((1 : Nat) : Rat) ≤ (x.toInt.natAbs : Rat) := Rat.natCast_le_natCast.mpr (by omega)
          simpa using this
        exact arc_dif m1 Rat.natCast_nonneg (Rat.natCast_le_natCast.mpr c) s3 n1.1 n1.2 s4 n2.2
      · rw [if_neg c] at n2 s4
        have m1 : (1 : Rat) ≤ (y.toInt.natAbs : Rat) := by
          have : ((1 : Nat) : Rat) ≤ (y.toInt.natAbs : Rat) := Rat.natCast_le_natCast.mpr (by omega)
          simpa using this
        exact arc_dif m1 Rat.natCast_nonneg (Rat.natCast_le_natCast.mpr (by omega)) s3 n1.1 n1.2 s4 n2.2
    have d2 : nb ((S : Rat) * u16 - φ1) (77 * u16) := by
      obtain ⟨x1, x2⟩ := d0
      obtain ⟨x3, x4⟩ := d1
      constructor <;> grind
    have d3 : nb ((pS2 x.toInt.natAbs y.toInt.natAbs S : Rat) * u16 - ψ) (79 * u16) := by
      unfold pS2
      by_cases c : y.toInt.natAbs ≤ x.toInt.natAbs
      · rw [if_pos c] at n2 ⊢
        rw [n2.1]
        exact nb_mono d2 (by grind)
      · rw [if_neg c] at n2 ⊢
        rw [n2.1, Rat.intCast_add, Rat.intCast_neg]
        have e : (((hpn : Nat) : Int) : Rat) = (hpn : Rat) := rfl
        rw [e, show (-(S : Rat) + (hpn : Rat)) * u16 = (hpn : Rat) * u16 - (S : Rat) * u16 by grind, hpu]
        obtain ⟨x1, x2⟩ := d2
        obtain ⟨x3, x4⟩ := hb3
        constructor <;> grind
    have d4 : nb ((pS3 x.toInt (pS2 x.toInt.natAbs y.toInt.natAbs S) : Rat) * u16 - φ) (83 * u16) := by
      rw [n3]
      unfold pS3
      by_cases c : 0 ≤ x.toInt
      · rw [if_pos c, if_pos c]
        exact nb_mono d3 (by grind)
      · rw [if_neg c, if_neg c, Rat.intCast_add, Rat.intCast_neg]
        have e : (((hpn * 2 : Nat) : Int) : Rat) = (hpn : Rat) * 2 := by
          have e1 : (((hpn * 2 : Nat) : Int) : Rat) = ((hpn * 2 : Nat) : Rat) := rfl
          rw [e1, Rat.natCast_mul]
          have e2 : ((2 : Nat) : Rat) = 2 := by simp
          rw [e2]
        rw [e]
        generalize (pS2 x.toInt.natAbs y.toInt.natAbs S : Rat) = P at *
        rw [show (-P + (hpn : Rat) * 2) * u16 = 2 * ((hpn : Rat) * u16) - P * u16 by grind, hpu]
        obtain ⟨x1, x2⟩ := d3
        obtain ⟨x3, x4⟩ := hb6
        constructor <;> grind
    unfold pS4
    by_cases c : 0 ≤ y.toInt
    · rw [if_pos c, if_pos c]
      exact nb_mono d4 (by grind)
    · rw [if_neg c, if_neg c, Rat.intCast_neg]
      obtain ⟨x1, x2⟩ := d4
      constructor <;> grind
  generalize pS4 y.toInt (pS3 x.toInt (pS2 x.toInt.natAbs y.toInt.natAbs S)) = S' at *
  have e9 : ((un (1000000000 : Int64) : Nat) : Int) = 1000000000 := by decide
  have Sb : -(5 * 2 ^ 160) ≤ S' ∧ S' ≤ 5 * 2 ^ 160 := by
    obtain ⟨φ, c1, -, -, -, -, c6⟩ := clo 11 (Or.inl rfl) g
    have c3 : ((5 * 2 ^ 160 : Int) : Rat) = 5 * ((2 ^ 160 : Nat) : Rat) := by decide +kernel
    have b : nb ((S' : Rat) * u16) 5 := by
      obtain ⟨x1, x2⟩ := c6
      by_cases c : 0 ≤ y.toInt
      · rw [if_pos c] at x1 x2
        constructor <;> grind
      · rw [if_neg c] at x1 x2
        constructor <;> grind
    have m := nb_mul (show nb ((2 ^ 160 : Nat) : Rat) ((2 ^ 160 : Nat) : Rat) from ⟨by grind, by grind⟩) b
    rw [show ((2 ^ 160 : Nat) : Rat) * ((S' : Rat) * u16) = (S' : Rat) * (((2 ^ 160 : Nat) : Rat) * u16) by grind, u2] at m
    have r1 : ((-(5 * 2 ^ 160) : Int) : Rat) ≤ (S' : Rat) := by
      rw [Rat.intCast_neg, c3]
      have := m.1
      generalize ((2 ^ 160 : Nat) : Rat) = U at *
      grind
    have r2 : (S' : Rat) ≤ ((5 * 2 ^ 160 : Int) : Rat) := by
      rw [c3]
      have := m.2
      generalize ((2 ^ 160 : Nat) : Rat) = U at *
      grind
    exact ⟨Rat.intCast_le_intCast.mp r1, Rat.intCast_le_intCast.mp r2⟩
  have ci := fn_okI (m := 1000000000) o (by decide) s1 (by rw [e9]; omega) (by rw [e9]; omega)
  rw [e9] at ci
  apply Int64.toInt_inj.mp
  rw [ci]
  refine (ag_val_i (fun f hf g => ?_) g).symm
  obtain ⟨φ, c1, c2, c3, b1, b2, c6⟩ := clo f hf g
  have hB := pw_pos f
  have hBr : (0 : Rat) < (((1000000 : Int) ^ f : Int) : Rat) := by
    have : ((0 : Int) : Rat) < (((1000000 : Int) ^ f : Int) : Rat) := Rat.intCast_lt_intCast.mpr hB
    simpa using this
  obtain ⟨d1, d2⟩ := rd_le (p := S' * 1000000000) (q := 2 ^ 160) (by decide)
  have cU : ((2 ^ 160 : Int) : Rat) = ((2 ^ 160 : Nat) : Rat) := by decide +kernel
  rw [Rat.intCast_mul, cU] at d1 d2
  have c9 : ((1000000000 : Int) : Rat) = 1000000000 := by simp
  rw [c9] at d1 d2
  have ni := an_no (φ := φ) X9 Y9 h00 hp c1.1 c1.2 c2 c3
  refine (fl_int2 (V := 1000000000 * (if 0 ≤ y.toInt then φ else -φ)) (t := 1000000000 * (90 * u16)) (A := ((2 ^ 160 : Nat) : Rat)) (a := (S' : Rat) * 1000000000) (B := (((1000000 : Int) ^ f : Int) : Rat)) (b := (((1000000 : Int) ^ f : Int) : Rat) * (1000000000 * (if 0 ≤ y.toInt then φ else -φ))) U0 hBr d1 d2 b1 b2 ?_ ?_ (fun k hk => ?_)).symm
  · generalize (if 0 ≤ y.toInt then φ else -φ) = θ at *
    have m := nb_mul (show nb ((2 ^ 160 : Nat) : Rat) ((2 ^ 160 : Nat) : Rat) from ⟨by grind, by grind⟩) c6
    rw [show ((2 ^ 160 : Nat) : Rat) * ((S' : Rat) * u16 - θ) = (S' : Rat) * (((2 ^ 160 : Nat) : Rat) * u16) - ((2 ^ 160 : Nat) : Rat) * θ by grind, u2] at m
    obtain ⟨x1, x2⟩ := m
    generalize ((2 ^ 160 : Nat) : Rat) = U at *
    constructor <;> grind
  · generalize (if 0 ≤ y.toInt then φ else -φ) = θ at *
    have m := Rat.mul_nonneg (Rat.le_of_lt hBr) u0
    constructor <;> grind
  · by_cases c : 0 ≤ y.toInt
    · rw [if_pos c] at hk
      exact ni k hk
    · rw [if_neg c] at hk
      refine ni (-k) ?_
      rw [Rat.intCast_neg]
      obtain ⟨x1, x2⟩ := hk
      constructor <;> grind
theorem EQ_an_ok : EQ_an := by
  intro y x u g ⟨⟨l1, l2⟩, l3, l4⟩ h0
  have ry := rg_of (lo' := -1000000) (hi' := 1000000) (by decide) (by decide) ⟨l1, l2⟩
  have rx := rg_of (lo' := -1000000) (hi' := 1000000) (by decide) (by decide) ⟨l3, l4⟩
  have m1 : (-1000000 : Int32).toInt = -1000000 := rfl
  have m2 : (1000000 : Int32).toInt = 1000000 := rfl
  have hz : (0 : Int32).toInt = 0 := rfl
  have hy1 : -1000000 ≤ y.toInt := by
    have : ¬ y.toInt < (-1000000 : Int32).toInt := fun q => ry.1 ((i32_lt _ _).mpr q)
    omega
  have hy2 : y.toInt ≤ 1000000 := by
    have := (i32_le _ _).mp ry.2
    omega
  have hx1 : -1000000 ≤ x.toInt := by
    have : ¬ x.toInt < (-1000000 : Int32).toInt := fun q => rx.1 ((i32_lt _ _).mpr q)
    omega
  have hx2 : x.toInt ≤ 1000000 := by
    have := (i32_le _ _).mp rx.2
    omega
  have zx : x = 0 ↔ x.toInt = 0 := ⟨fun h => by rw [h]; rfl, fun h => Int32.toInt_inj.mp (by rw [h]; rfl)⟩
  have zy : y = 0 ↔ y.toInt = 0 := ⟨fun h => by rw [h]; rfl, fun h => Int32.toInt_inj.mp (by rw [h]; rfl)⟩
  have h00 : ¬ (x.toInt = 0 ∧ y.toInt = 0) := fun q => h0 ⟨zx.mpr q.1, zy.mpr q.2⟩
  have top : vl_an y x g = if y = 0 then (if x < 0 then ag_val y x g else if x = 0 then -9223372036854775808 else 0) else ag_val y x g := (if_neg ry.1).trans ((if_neg (Int32.not_lt.mpr ry.2)).trans ((if_neg rx.1).trans (if_pos rx.2)))
  rw [top]
  by_cases cy : y = 0
  · rw [if_pos cy]
    by_cases cx : x < 0
    · rw [if_pos cx]
      have := (i32_lt _ _).mp cx
      rw [hz] at this
      exact an_eq hx1 hx2 hy1 hy2 h00 (fun _ => this)
    · rw [if_neg cx]
      have xn : x ≠ 0 := fun q => h0 ⟨q, cy⟩
      rw [if_neg xn]
      have xp : 0 ≤ x.toInt := by
        have : ¬ x.toInt < (0 : Int32).toInt := fun q => cx ((i32_lt _ _).mpr q)
        omega
      obtain ⟨o, S, ψc, s1, -, -, -, s5⟩ := pt_val (u := u) hx1 hx2 hy1 hy2 h00
      have yz := zy.mp cy
      have eS : pS4 y.toInt (pS3 x.toInt (pS2 x.toInt.natAbs y.toInt.natAbs S)) = 0 := by
        rw [s5 yz, yz]
        unfold pS4 pS3 pS2
        rw [if_pos (by decide), if_pos xp]
        exact if_pos (Nat.zero_le _)
      rw [eS] at s1
      have e9 : ((un (1000000000 : Int64) : Nat) : Int) = 1000000000 := by decide
      have ci := fn_okI (m := 1000000000) o (by decide) s1 (by rw [e9]; decide) (by rw [e9]; decide)
      apply Int64.toInt_inj.mp
      rw [ci, e9]
      rfl
  · rw [if_neg cy]
    exact an_eq hx1 hx2 hy1 hy2 h00 (fun q => absurd (zy.mpr q) cy)
