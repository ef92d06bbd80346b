/-! EQ_an: the end -/
theorem u16_e : e20 * 1000 ≤ e90 ∧ 1000000 * (10 * e90) ≤ 1/50 * u16 ∧ 2 / ((2 ^ 160 : Nat) : Rat) = 2 * u16 ∧ 4 / ((2 ^ 160 : Nat) : Rat) = 4 * u16 ∧ 134000000 * u16 ≤ etA ∧ 1 / ((2 ^ 200 : Nat) : Rat) = e20 ∧ etA ≤ 1/100000000 ∧ 100000000000000000000 * t4 ≤ u16 := by decide +kernel
/-- across the reference's angle the point has nearly nothing -/
theorem an_cross {x y : Int} {f : Nat} {φ1 ψ φ : Rat} (hf : f = 11 ∨ f = 17) (hX : x.natAbs ≤ 1000000) (hY : y.natAbs ≤ 1000000) (n1 : 0 ≤ φ1 ∧ φ1 ≤ 101/100)
    (n2 : if y.natAbs ≤ x.natAbs then ψ = φ1 ∧ nb ((x.natAbs : Rat) * ss φ1 - (y.natAbs : Rat) * cc φ1) (1000000 * (3 * e90)) else ψ = har f - φ1 ∧ nb ((y.natAbs : Rat) * ss φ1 - (x.natAbs : Rat) * cc φ1) (1000000 * (3 * e90)))
    (hφ : φ = if 0 ≤ x then ψ else pir f - ψ) : (0 ≤ φ ∧ φ ≤ 31415926536/10000000000) ∧ nb ((x : Rat) * ss φ - (y.natAbs : Rat) * cc φ) (1/50 * u16) ∧ (x < 0 → y = 0 → 2 ≤ φ) := by
  obtain ⟨hb1, hb2, -, hb4, hb5, -⟩ := har_bd hf
  obtain ⟨hc, hs⟩ := har_ok hf
  obtain ⟨pc, ps⟩ := pir_ok hf
  obtain ⟨g0, g1, g2, g3, g4, g5, g6⟩ := e20_ok
  obtain ⟨w1, w2', w3, w4, w5, w6, -, -⟩ := u16_e
  rw [w6] at pc ps
  have Xr0 : (0 : Rat) ≤ (x.natAbs : Rat) := Rat.natCast_nonneg
  have Yr0 : (0 : Rat) ≤ (y.natAbs : Rat) := Rat.natCast_nonneg
  have Xr : (x.natAbs : Rat) ≤ 1000000 := by
    have : (x.natAbs : Rat) ≤ ((1000000 : Nat) : Rat) := Rat.natCast_le_natCast.mpr hX
    simpa using this
  have Yr : (y.natAbs : Rat) ≤ 1000000 := by
    have : (y.natAbs : Rat) ≤ ((1000000 : Nat) : Rat) := Rat.natCast_le_natCast.mpr hY
    simpa using this
  have e9 : 0 ≤ e90 := by grind
  -- the first quarter
  have q : (0 ≤ ψ ∧ ψ ≤ 158/100) ∧ nb ((x.natAbs : Rat) * ss ψ - (y.natAbs : Rat) * cc ψ) (1000000 * (4 * e90)) ∧ (y = 0 → ψ ≤ 101/100) := by
    by_cases c : y.natAbs ≤ x.natAbs
    · rw [if_pos c] at n2
      obtain ⟨a1, a2⟩ := n2
      rw [a1]
      exact ⟨⟨n1.1, by grind⟩, nb_mono a2 (by grind), fun _ => n1.2⟩
    · rw [if_neg c] at n2
      obtain ⟨a1, a2⟩ := n2
      obtain ⟨b1, b2⟩ := cs_q (h := har f) (x := φ1) (e := e20) ⟨by grind, by grind⟩ ⟨by grind, by grind⟩ g0 g1 hc hs
      refine ⟨⟨by grind, by grind⟩, ?_, fun h => absurd (show y.natAbs ≤ x.natAbs by rw [h]; exact Nat.zero_le _) c⟩
      rw [a1]
      generalize cc (har f - φ1) = C at *
      generalize ss (har f - φ1) = S at *
      generalize cc φ1 = c' at *
      generalize ss φ1 = s' at *
      have m1 := nb_mul (show nb (x.natAbs : Rat) 1000000 from ⟨by grind, Xr⟩) b2
      have m2 := nb_mul (show nb (y.natAbs : Rat) 1000000 from ⟨by grind, Yr⟩) b1
      obtain ⟨x1, x2⟩ := m1
      obtain ⟨x3, x4⟩ := m2
      obtain ⟨x5, x6⟩ := a2
      constructor <;> grind
  obtain ⟨⟨ψ0, ψ1⟩, q2, q3⟩ := q
  by_cases c : 0 ≤ x
  · rw [if_pos c] at hφ
    rw [hφ]
    have e : (x : Rat) = (x.natAbs : Rat) := by
      have h : (x.natAbs : Int) = x := by omega
      have h2 : (((x.natAbs : Nat) : Int) : Rat) = (x : Rat) := by rw [h]
      exact h2.symm
    rw [e]
    exact ⟨⟨ψ0, by grind⟩, nb_mono q2 (by grind), fun h => absurd h (by omega)⟩
  · rw [if_neg c] at hφ
    have e : (x : Rat) = -(x.natAbs : Rat) := by
      have h : -(x.natAbs : Int) = x := by omega
      have h2 : ((-((x.natAbs : Nat) : Int) : Int) : Rat) = (x : Rat) := by rw [h]
      rw [← h2, Rat.intCast_neg]; rfl
    obtain ⟨b1, b2⟩ := refl_p (x := ψ) (p := pir f) (e := e20) ψ0 (by grind) (by grind) g1 pc ps
    rw [hφ, e]
    refine ⟨⟨by grind, by grind⟩, ?_, fun _ h => by have := q3 h; grind⟩
    generalize cc (pir f - ψ) = C at *
    generalize ss (pir f - ψ) = S at *
    generalize cc ψ = c' at *
    generalize ss ψ = s' at *
    have m1 := nb_mul (show nb (x.natAbs : Rat) 1000000 from ⟨by grind, Xr⟩) b2
    have m2 := nb_mul (show nb (y.natAbs : Rat) 1000000 from ⟨by grind, Yr⟩) b1
    obtain ⟨x1, x2⟩ := m1
    obtain ⟨x3, x4⟩ := m2
    obtain ⟨x5, x6⟩ := q2
    constructor <;> grind
theorem ss_tn {d e : Rat} (h : nb d e) (he : e ≤ 1/1000) : nb (ss d) (101/100 * e) ∧ nb (cc d) 2 := by
  have e0 := nb_nn h
  have k := (cs_cutI (d := d) (α := e) (n := 5) h (by decide) (by
    have : ((5 + 1 : Nat) : Rat) = 6 := by simp
    rw [this]; grind)).2
  obtain ⟨c5, -⟩ := cI_5 d
  obtain ⟨-, t5⟩ := cI_5 e
  rw [c5, t5] at k
  refine ⟨?_, (cs_bd (a := d) (α := 1) (nb_mono h (by grind)) (by decide +kernel)).1⟩
  have m2 := nb_mul h h
  have m3 := nb_mul m2 h
  have m5 := nb_mul m3 m2
  have ee := Rat.mul_le_mul_of_nonneg_left he e0
  have ee0 := Rat.mul_nonneg e0 e0
  have e3 := Rat.mul_le_mul_of_nonneg_right ee e0
  have e30 := Rat.mul_nonneg ee0 e0
  have e5 := Rat.mul_le_mul_of_nonneg_left ee e30
  have e50 := Rat.mul_nonneg e30 ee0
  obtain ⟨x1, x2⟩ := k
  obtain ⟨x3, x4⟩ := m3
  obtain ⟨x5, x6⟩ := m5
  obtain ⟨h1, h2⟩ := h
  have b3 : e * e * e ≤ 1/1000000 * e := by grind
  have b5 : e * e * e * (e * e) ≤ 1/1000000 * e := by
    have q := Rat.mul_le_mul_of_nonneg_left (show e * e ≤ 1 by grind) e30
    grind
  constructor <;> grind
/-- no whole number of billionths is near the angle -/
theorem an_no {x y : Int} {φ : Rat} (hX : x.natAbs ≤ 1000000) (hY : y.natAbs ≤ 1000000) (h00 : ¬ (x = 0 ∧ y = 0)) (hp : y = 0 → x < 0) (b0 : 0 ≤ φ) (b1 : φ ≤ 31415926536/10000000000) (cr : nb ((x : Rat) * ss φ - (y.natAbs : Rat) * cc φ) (1/50 * u16)) (far : x < 0 → y = 0 → 2 ≤ φ) (N : Int) : ¬ nb (1000000000 * φ - (N : Rat)) (1000000000 * (90 * u16)) := by
  intro hk
  obtain ⟨u0, u1, u2, u3, u4⟩ := u16_ok
  obtain ⟨-, -, -, -, w5, -, w7, w8⟩ := u16_e
  have t0 := t4_0
  have N0 : 0 ≤ N := by
    refine Decidable.byContradiction (fun c => ?_)
    have r : (N : Rat) ≤ ((-1 : Int) : Rat) := Rat.intCast_le_intCast.mpr (by omega)
    have e : ((-1 : Int) : Rat) = -1 := by simp
    rw [e] at r
    have := hk.2
    grind
  obtain ⟨n, hn⟩ := Int.eq_ofNat_of_zero_le N0
  have en : (N : Rat) = (n : Rat) := by rw [hn]; rfl
  rw [en] at hk
  have n9 : n < 3141592654 := by
    refine Decidable.byContradiction (fun c => ?_)
    have r : ((3141592654 : Nat) : Rat) ≤ (n : Rat) := Rat.natCast_le_natCast.mpr (by omega)
    have e : ((3141592654 : Nat) : Rat) = 3141592654 := by simp
    rw [e] at r
    have := hk.1
    grind
  have dl : nb ((n : Rat) / 1000000000 - φ) (90 * u16) := by
    obtain ⟨a1, a2⟩ := hk
    constructor <;> grind
  have nφ : nb φ 4 := ⟨by grind, by grind⟩
  obtain ⟨k1, k2⟩ := cs_add (a := φ) (b := (n : Rat) / 1000000000 - φ) (α := 4) (β := 1) nφ (nb_mono dl (by grind)) (by decide +kernel)
  rw [show φ + ((n : Rat) / 1000000000 - φ) = (n : Rat) / 1000000000 by grind] at k1 k2
  obtain ⟨sd, cd⟩ := ss_tn dl (by grind)
  have one := cs_one nφ (by decide +kernel)
  have Xr : nb (x : Rat) 1000000 := by
    have a := nb_abs x
    have b : (x.natAbs : Rat) ≤ ((1000000 : Nat) : Rat) := Rat.natCast_le_natCast.mpr hX
    have e : ((1000000 : Nat) : Rat) = 1000000 := by simp
    rw [e] at b
    exact nb_mono a b
  have Yr0 : (0 : Rat) ≤ (y.natAbs : Rat) := Rat.natCast_nonneg
  have Yr : (y.natAbs : Rat) ≤ 1000000 := by
    have : (y.natAbs : Rat) ≤ ((1000000 : Nat) : Rat) := Rat.natCast_le_natCast.mpr hY
    simpa using this
  have sqx := nb_sq Xr
  have sqy := nb_sq (show nb (y.natAbs : Rat) 1000000 from ⟨by grind, Yr⟩)
  -- across the whole number
  have main : nb ((x : Rat) * ss ((n : Rat) / 1000000000) - (y.natAbs : Rat) * cc ((n : Rat) / 1000000000)) etA := by
    generalize cc ((n : Rat) / 1000000000) = C at *
    generalize ss ((n : Rat) / 1000000000) = S at *
    generalize cc ((n : Rat) / 1000000000 - φ) = c' at *
    generalize ss ((n : Rat) / 1000000000 - φ) = s' at *
    generalize cc φ = c at *
    generalize ss φ = s at *
    have ident : (x : Rat) * (c * s' + s * c') - (y.natAbs : Rat) * (c * c' - s * s') = ((x : Rat) * s - (y.natAbs : Rat) * c) * c' + ((x : Rat) * c + (y.natAbs : Rat) * s) * s' := by grind
    have dsq : ((x : Rat) * c + (y.natAbs : Rat) * s) * ((x : Rat) * c + (y.natAbs : Rat) * s) ≤ 1414300 * 1414300 := by
      have e : ((x : Rat) * c + (y.natAbs : Rat) * s) * ((x : Rat) * c + (y.natAbs : Rat) * s) + ((x : Rat) * s - (y.natAbs : Rat) * c) * ((x : Rat) * s - (y.natAbs : Rat) * c) = ((x : Rat) * (x : Rat) + (y.natAbs : Rat) * (y.natAbs : Rat)) * (c * c + s * s) := by grind
      have p := sq_nn ((x : Rat) * s - (y.natAbs : Rat) * c)
      have tt := t4_1
      have o2 : c * c + s * s ≤ 1000001/1000000 := by have := one.2; grind
      have p2 := sq_nn (x : Rat)
      have p3 := sq_nn (y.natAbs : Rat)
      have q := Rat.mul_le_mul_of_nonneg_left o2 (show 0 ≤ (x : Rat) * (x : Rat) + (y.natAbs : Rat) * (y.natAbs : Rat) by grind)
      grind
    have db := ab_le (show (0 : Rat) ≤ 1414300 by decide) dsq
    have m1 := nb_mul cr cd
    have m2 := nb_mul db sd
    have m3 := nb_mul Xr k2
    have m4 := nb_mul (show nb (y.natAbs : Rat) 1000000 from ⟨by grind, Yr⟩) k1
    rw [show (x : Rat) * S - (y.natAbs : Rat) * C = ((x : Rat) * (c * s' + s * c') - (y.natAbs : Rat) * (c * c' - s * s')) - ((x : Rat) * (c * s' + s * c' - S) - (y.natAbs : Rat) * (c * c' - s * s' - C)) by grind, ident]
    generalize ((x : Rat) * s - (y.natAbs : Rat) * c) * c' = Z1 at *
    generalize ((x : Rat) * c + (y.natAbs : Rat) * s) * s' = Z2 at *
    generalize (x : Rat) * (c * s' + s * c' - S) = Z3 at *
    generalize (y.natAbs : Rat) * (c * c' - s * s' - C) = Z4 at *
    obtain ⟨x1, x2⟩ := m1
    obtain ⟨x3, x4⟩ := m2
    obtain ⟨x5, x6⟩ := m3
    obtain ⟨x7, x8⟩ := m4
    clear ident dsq db cr cd sd one k1 k2
    constructor <;> grind
  by_cases c9 : 990 ≤ n
  · have yy : (((y.natAbs : Nat) : Int) : Rat) = (y.natAbs : Rat) := rfl
    rw [← yy] at main
    have i1 : x * x = ((x.natAbs * x.natAbs : Nat) : Int) := by rw [Int.natCast_mul]; exact (Int.natAbs_mul_self' x).symm
    refine an_all c9 n9 (x.natAbs + y.natAbs) x (y.natAbs : Int) (by omega) (by omega) ?_ main
    have a1 := Nat.mul_le_mul hX hX
    have a2 := Nat.mul_le_mul hY hY
    have i2 : (y.natAbs : Int) * (y.natAbs : Int) = ((y.natAbs * y.natAbs : Nat) : Int) := (Int.natCast_mul _ _).symm
    rw [i1, i2]
    generalize x.natAbs * x.natAbs = A at *
    generalize y.natAbs * y.natAbs = D at *
    omega
  · have nr : (n : Rat) ≤ 989 := by
      have : (n : Rat) ≤ ((989 : Nat) : Rat) := Rat.natCast_le_natCast.mpr (by omega)
      simpa using this
    have nr0 : (0 : Rat) ≤ (n : Rat) := Rat.natCast_nonneg
    by_cases hy : y = 0
    · have f2 := far (hp hy) hy
      have := dl.1
      grind
    · have y1 : (1 : Rat) ≤ (y.natAbs : Rat) := by
        have : ((1 : Nat) : Rat) ≤ (y.natAbs : Rat) := Rat.natCast_le_natCast.mpr (by omega)
        simpa using this
      have sm := cs_small (d := (n : Rat) / 1000000000) (by grind) (by grind)
      obtain ⟨s1, -⟩ := ss_tn (d := (n : Rat) / 1000000000) (e := 989/1000000000) ⟨by grind, by grind⟩ (by decide +kernel)
      generalize ss ((n : Rat) / 1000000000) = S at *
      generalize cc ((n : Rat) / 1000000000) = C at *
      have m1 := nb_mul Xr s1
      have C1 : 999997/1000000 ≤ C := by have := sm.1.1; grind
      have m2 := Rat.mul_le_mul_of_nonneg_left C1 Yr0
      have := main.1
      have := main.2
      have := m1.2
      have := m1.1
      grind
