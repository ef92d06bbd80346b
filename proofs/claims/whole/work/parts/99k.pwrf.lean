/-- the reference's number -/
theorem rf_pw {b : Int32} {x k : Nat} {B st : Int} (h2 : x ≤ 20000000) (hB : 10 ^ 66 ≤ B) (hk : k ≤ 700) (hst : 64 * 1000000 * st = (x : Int) * B) (hz : pwT B st k = 0) : nb (((pwQ B (pwS b B st k) 6 : Int) : Rat) - (B : Rat) * gg (decide (¬ b = 0)) ^ x) ((B : Rat) * (1 / ((2 ^ 160 : Nat) : Rat))) := by
  have xr : (x : Rat) ≤ 20000000 := by
    have : (x : Rat) ≤ ((20000000 : Nat) : Rat) := Rat.natCast_le_natCast.mpr h2
    simpa using this
  have x0 : (0 : Rat) ≤ (x : Rat) := Rat.natCast_nonneg
  have hBt : (3000 : Rat) ≤ (B : Rat) * (1 / ((2 ^ 200 : Nat) : Rat)) := by
    have h : ((10 ^ 66 : Int) : Rat) ≤ (B : Rat) := Rat.intCast_le_intCast.mpr hB
    have p : (0 : Rat) ≤ 1 / ((2 ^ 200 : Nat) : Rat) := by decide +kernel
    have d : (3000 : Rat) ≤ ((10 ^ 66 : Int) : Rat) * (1 / ((2 ^ 200 : Nat) : Rat)) := by decide +kernel
    have m := Rat.mul_le_mul_of_nonneg_right h p
    exact Rat.le_trans d m
  have hBr : (3000 : Rat) ≤ (B : Rat) := by
    have d : ((3000 : Int) : Rat) ≤ (B : Rat) := Rat.intCast_le_intCast.mpr (Int.le_trans (by decide) hB)
    simpa using d
  have hB0 : 0 < B := Int.lt_of_lt_of_le (by decide) hB
  have hs0 : 0 ≤ st := by
    have : 0 ≤ (x : Int) * B := Int.mul_nonneg (by omega) (by omega)
    omega
  have h3 : 3 * st ≤ B := by
    have : (x : Int) * B ≤ 20000000 * B := Int.mul_le_mul_of_nonneg_right (by omega) (by omega)
    omega
  have d2 : (2 : Rat) * (dl / 2) = dl := by grind
  have w0 : 0 ≤ (x : Rat) * (dl / 2) := Rat.mul_nonneg x0 (by decide +kernel)
  have w1 : (x : Rat) * (dl / 2) + (x : Rat) * (dl / 2) ≤ 1 := by
    have := Rat.mul_le_mul_of_nonneg_right xr dl_0
    have : (20000000 : Rat) * dl ≤ 1 := by decide +kernel
    grind
  have hw : (B : Rat) * ((x : Rat) * (dl / 2)) = (st : Rat) := by
    have r : ((64 * 1000000 * st : Int) : Rat) = (((x : Int) * B : Int) : Rat) := by rw [hst]
    rw [Rat.intCast_mul, Rat.intCast_mul, Rat.intCast_mul] at r
    have e1 : ((64 : Int) : Rat) * ((1000000 : Int) : Rat) = 64000000 := by decide +kernel
    have e2 : (((x : Nat) : Int) : Rat) = (x : Rat) := rfl
    rw [e1, e2] at r
    have e3 : dl / 2 * 64000000 = 1 := by decide +kernel
    generalize dl / 2 = e at *
    grind
  cases k with
  | zero => exact absurd hz (show ¬ B = 0 by omega)
  | succ k =>
    have t := (pw_true hB0 hs0 h3 hw w0 (k + 1)).2
    rw [hz] at t
    have e0 : ((0 : Int) : Rat) = 0 := rfl
    rw [e0] at t
    have tl := tl_near (b := decide (¬ b = 0)) (z := (x : Rat) * (dl / 2)) (U := (B : Rat)) (k := k) w0 (by grind) (by grind) (by omega) (by grind)
    have kr : ((k + 1 : Nat) : Rat) ≤ 700 := by
      have : ((k + 1 : Nat) : Rat) ≤ ((700 : Nat) : Rat) := Rat.natCast_le_natCast.mpr hk
      simpa using this
    have c : nb (((pwS b B st (k + 1) : Int) : Rat) - (B : Rat) * eS (sg (decide (¬ b = 0)) ((x : Rat) * (dl / 2))) (k + 1)) 2100 := by
      by_cases hb : b = 0
      · subst hb
        obtain ⟨u, v⟩ := pw_pos9 hB0 hs0 h3 hw w0 (k + 1)
        show nb (((pwS 0 B st (k + 1) : Int) : Rat) - (B : Rat) * eS ((x : Rat) * (dl / 2)) (k + 1)) 2100
        constructor <;> grind
      · obtain ⟨u, v⟩ := pw_neg9 hb hB0 hs0 h3 hw w0 (k + 1)
        have e : decide (¬ b = 0) = true := decide_eq_true hb
        rw [e]
        show nb (((pwS b B st (k + 1) : Int) : Rat) - (B : Rat) * eS (-((x : Rat) * (dl / 2))) (k + 1)) 2100
        constructor <;> grind
    generalize decide (¬ b = 0) = bb at *
    have s := nb_add c tl
    generalize hY : eS (sg bb ((x : Rat) * (dl / 2))) 800 = Y at *
    generalize pwS b B st (k + 1) = S at *
    have s0 : nb ((S : Rat) - (B : Rat) * Y) 2103 := by
      have e : (S : Rat) - (B : Rat) * eS (sg bb ((x : Rat) * (dl / 2))) (k + 1) + ((B : Rat) * eS (sg bb ((x : Rat) * (dl / 2))) (k + 1) - (B : Rat) * Y) = (S : Rat) - (B : Rat) * Y := by grind
      rw [e] at s
      exact nb_mono s (by grind)
    -- Y lies between 0 and 15/8
    have sn := sg_near (b := bb) w0 w0 w1 799
    have ew : (x : Rat) * (dl / 2) + (x : Rat) * (dl / 2) = (x : Rat) * dl := by grind
    rw [ew, hY] at sn
    rw [ew] at w1
    have z0 : 0 ≤ (x : Rat) * dl := Rat.mul_nonneg x0 dl_0
    have tm := eT_mono z0 w1 800
    have t8 := et_800
    have bp := bt_pw bb x h2
    have y2 : nb (Y * Y - bt bb ^ x) (1 / ((2 ^ 260 : Nat) : Rat)) := by
      have k9 := nb_add sn bp
      have e : Y * Y - eS (sg bb ((x : Rat) * dl)) 800 + (eS (sg bb ((x : Rat) * dl)) 800 - bt bb ^ x) = Y * Y - bt bb ^ x := by grind
      rw [e] at k9
      refine nb_mono k9 ?_
      have d : 1 / ((2 ^ 300 : Nat) : Rat) + 1 / ((2 ^ 270 : Nat) : Rat) ≤ 1 / ((2 ^ 260 : Nat) : Rat) := by decide +kernel
      generalize (1 / ((2 ^ 300 : Nat) : Rat) : Rat) = T3 at *
      generalize (1 / ((2 ^ 270 : Nat) : Rat) : Rat) = T2 at *
      generalize (1 / ((2 ^ 260 : Nat) : Rat) : Rat) = T1 at *
      grind
    have yb : nb Y 2 := by
      have hh : nb (eS (sg bb ((x : Rat) * (dl / 2))) 800) (eS ((x : Rat) * (dl / 2)) 800) := by
        cases bb with
        | false =>
          have := eS_nn w0 800
          show nb (eS ((x : Rat) * (dl / 2)) 800) _
          constructor <;> grind
        | true =>
          have a := eS_ab w0 0 800
          rw [Nat.zero_add] at a
          have e0 : eS ((x : Rat) * (dl / 2)) 0 = 1 := rfl
          have e9 : eS (-((x : Rat) * (dl / 2))) 0 = 1 := rfl
          rw [e0, e9] at a
          have m := eS_mono w0 800 0
          rw [Nat.zero_add, e0] at m
          show nb (eS (-((x : Rat) * (dl / 2))) 800) _
          constructor <;> grind
      rw [hY] at hh
      refine nb_mono hh ?_
      have t2 := eS_tail (z := (x : Rat) * (dl / 2)) w0 (by grind) 0 799
      rw [show 0 + 1 + 799 = 800 from rfl, show 0 + 1 = 1 from rfl] at t2
      have p := eT_nn w0 800
      have e1 : eS ((x : Rat) * (dl / 2)) 1 = 1 + eT ((x : Rat) * (dl / 2)) 1 := rfl
      have e2 : eT ((x : Rat) * (dl / 2)) 1 = 1 * ((x : Rat) * (dl / 2)) / ((0 + 1 : Nat) : Rat) := rfl
      have e3 : eT ((x : Rat) * (dl / 2)) 1 = (x : Rat) * (dl / 2) := by
        rw [e2]
        have : ((0 + 1 : Nat) : Rat) = 1 := rfl
        rw [this]; grind
      rw [e1, e3] at t2
      have := Rat.mul_le_mul_of_nonneg_right xr (show 0 ≤ dl / 2 by decide +kernel)
      have : (20000000 : Rat) * (dl / 2) ≤ 1/3 := by decide +kernel
      grind
    have q1 := rd_le (p := S * S) hB0
    rw [Rat.intCast_mul] at q1
    have pτ : (0 : Rat) ≤ 1 / ((2 ^ 200 : Nat) : Rat) := by decide +kernel
    have dτ : 1 / ((2 ^ 260 : Nat) : Rat) ≤ 1 / ((2 ^ 200 : Nat) : Rat) := by decide +kernel
    have fτ : 30000000000 * (8 * (1 / ((2 ^ 200 : Nat) : Rat)) + 1 / ((2 ^ 200 : Nat) : Rat)) ≤ 1 / ((2 ^ 160 : Nat) : Rat) := by decide +kernel
    have gτ : 2000000000 * (8 * (1 / ((2 ^ 200 : Nat) : Rat)) + 1 / ((2 ^ 200 : Nat) : Rat)) ≤ 1 := by decide +kernel
    generalize (1 / ((2 ^ 200 : Nat) : Rat) : Rat) = τ at *
    generalize (1 / ((2 ^ 260 : Nat) : Rat) : Rat) = τ6 at *
    generalize (1 / ((2 ^ 160 : Nat) : Rat) : Rat) = τ1 at *
    have hBp : (0 : Rat) < (B : Rat) := by grind
    -- the first square
    have n1 : nb (((S * S / B : Int) : Rat) - (B : Rat) * bt bb ^ x) ((B : Rat) * (8 * τ)) := by
      have hs : nb ((S : Rat) + (B : Rat) * Y) (5 * (B : Rat)) := by
        obtain ⟨u1, u2⟩ := s0
        obtain ⟨v1, v2⟩ := yb
        have m1 := Rat.mul_le_mul_of_nonneg_right v1 (show 0 ≤ (B : Rat) by grind)
        have m2 := Rat.mul_le_mul_of_nonneg_right v2 (show 0 ≤ (B : Rat) by grind)
        constructor <;> grind
      have m := nb_mul (nb_mono s0 (show (2103 : Rat) ≤ (B : Rat) * τ by grind)) hs
      have e : ((S : Rat) - (B : Rat) * Y) * ((S : Rat) + (B : Rat) * Y) = (S : Rat) * (S : Rat) - (B : Rat) * ((B : Rat) * (Y * Y)) := by grind
      rw [e] at m
      have m2 := nb_mul (nb_mono y2 dτ) (show nb ((B : Rat) * (B : Rat)) ((B : Rat) * (B : Rat)) from ⟨by have := Rat.mul_nonneg (Rat.le_of_lt hBp) (Rat.le_of_lt hBp); grind, by grind⟩)
      obtain ⟨a1, a2⟩ := m
      obtain ⟨b1, b2⟩ := m2
      obtain ⟨q2, q3⟩ := q1
      generalize ((S * S / B : Int) : Rat) = d at *
      generalize bt bb ^ x = Z at *
      have m3 := Rat.mul_le_mul_of_nonneg_right (show (1 : Rat) ≤ (B : Rat) * τ by grind) (Rat.le_of_lt hBp)
      generalize (B : Rat) = β at *
      constructor
      · exact mul_cancel_le hBp (by grind)
      · exact mul_cancel_le hBp (by grind)
    have hc : (1 : Rat) ≤ (B : Rat) * τ := by grind
    have f := sq5 (U := (B : Rat)) (B := bt bb ^ x) (c := (B : Rat) * τ) (E := (B : Rat) * (8 * τ)) (q := fun j => ((pwQ B S (j + 1) : Int) : Rat)) hBp (rp_nn (bt_0 bb) x) (bt_le bb x h2) n1 (by grind) (fun j hj => by
      obtain ⟨d1, d2⟩ := rd_le (p := pwQ B S (j + 1) * pwQ B S (j + 1)) hB0
      rw [Rat.intCast_mul] at d1 d2
      have E : pwQ B S (j + 1 + 1) = pwQ B S (j + 1) * pwQ B S (j + 1) / B := rfl
      rw [E]
      have m1 := Rat.mul_le_mul_of_nonneg_right hc (Rat.le_of_lt hBp)
      generalize ((pwQ B S (j + 1) * pwQ B S (j + 1) / B : Int) : Rat) = d at *
      generalize ((pwQ B S (j + 1) : Int) : Rat) = q at *
      generalize (B : Rat) = β at *
      constructor <;> grind) (by
      have := Rat.mul_le_mul_of_nonneg_right gτ (Rat.le_of_lt hBp)
      grind)
    have eg : (bt bb ^ x) ^ 32 = gg bb ^ x := by
      unfold gg
      rw [← rp_mul, ← rp_mul, Nat.mul_comm]
    rw [eg] at f
    refine nb_mono f ?_
    have := Rat.mul_le_mul_of_nonneg_right fτ (Rat.le_of_lt hBp)
    grind
