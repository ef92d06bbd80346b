/-! the reference's power: what it answers, in one number -/
theorem dv_six {T s B q : Int} (hT : 0 ≤ T) (hs0 : 0 ≤ s) (hB : 0 < B) (hs : 3 * s ≤ B) (hq : 2 ≤ q) : 6 * (T * s / B / q) ≤ T := by
  have h1 := dv_third hT hB hs
  have h0 := Int.ediv_nonneg (Int.mul_nonneg hT hs0) (Int.le_of_lt hB)
  have h2 := Int.ediv_mul_le (T * s / B) (b := q) (by omega)
  have h3 := Int.ediv_nonneg h0 (show 0 ≤ q by omega)
  have h4 := Int.mul_le_mul_of_nonneg_left hq h3
  generalize T * s / B / q = e at *
  generalize T * s / B = d at *
  omega
theorem pwT_nn {B st : Int} (hB : 0 < B) (hs : 0 ≤ st) : ∀ n, 0 ≤ pwT B st n
  | 0 => Int.le_of_lt hB
  | n + 1 => Int.ediv_nonneg (Int.ediv_nonneg (Int.mul_nonneg (pwT_nn hB hs n) hs) (Int.le_of_lt hB)) (by omega)
theorem pwS_14 {b : Int32} {B st : Int} (hB : 0 < B) (hs : 0 ≤ st) (h : 16 * st ≤ 5 * B) : ∀ n, 5 * pwS b B st n + pwT B st n ≤ 7 * B
  | 0 => by show 5 * B + B ≤ 7 * B; omega
  | n + 1 => by
    have ih := pwS_14 (b := b) hB hs h n
    have t0 := pwT_nn hB hs (n + 1)
    have hle : pwS b B st (n + 1) ≤ pwS b B st n + pwT B st (n + 1) := by
      have E : pwS b B st (n + 1) = if b = 0 then pwS b B st n + pwT B st (n + 1) else if (n + 1) % 2 = 1 then pwS b B st n - pwT B st (n + 1) else pwS b B st n + pwT B st (n + 1) := rfl
      rw [E]
      split
      · omega
      · split <;> omega
    have h6 : 5 * pwS b B st n + 6 * pwT B st (n + 1) ≤ 7 * B := by
      cases n with
      | zero =>
        have e1 : pwT B st 1 = st := by
          show B * st / B / 1 = st
          rw [Int.mul_comm, Int.mul_ediv_cancel _ (by omega), Int.ediv_one]
        show 5 * B + 6 * pwT B st 1 ≤ 7 * B
        rw [e1]; omega
      | succ m =>
        have k : 6 * pwT B st (m + 1 + 1) ≤ pwT B st (m + 1) := dv_six (q := ((m + 1 + 1 : Nat) : Int)) (pwT_nn hB hs (m + 1)) hs hB (by omega) (by omega)
        omega
    omega
theorem sq_14 {B S : Int} (hB : 0 < B) (h0 : 0 ≤ S) (h : 5 * S ≤ 7 * B) : ∀ j, 0 ≤ pwQ B S j ∧ 5 ^ (2 ^ j) * pwQ B S j ≤ 7 ^ (2 ^ j) * B
  | 0 => ⟨h0, by show 5 ^ 1 * S ≤ 7 ^ 1 * B; omega⟩
  | j + 1 => by
    obtain ⟨a, b⟩ := sq_14 hB h0 h j
    have E : pwQ B S (j + 1) = pwQ B S j * pwQ B S j / B := rfl
    have e5 : (5 : Int) ^ (2 ^ (j + 1)) = 5 ^ (2 ^ j) * 5 ^ (2 ^ j) := by rw [← Int.pow_add]; congr 1; rw [Nat.pow_succ]; omega
    have e7 : (7 : Int) ^ (2 ^ (j + 1)) = 7 ^ (2 ^ j) * 7 ^ (2 ^ j) := by rw [← Int.pow_add]; congr 1; rw [Nat.pow_succ]; omega
    rw [E, e5, e7]
    have p5 : (0 : Int) < 5 ^ (2 ^ j) := Int.pow_pos (by decide)
    have p7 : (0 : Int) < 7 ^ (2 ^ j) := Int.pow_pos (by decide)
    generalize (5 : Int) ^ (2 ^ j) = F at *
    generalize (7 : Int) ^ (2 ^ j) = G at *
    generalize pwQ B S j = Q at *
    refine ⟨Int.ediv_nonneg (Int.mul_nonneg a a) (Int.le_of_lt hB), ?_⟩
    have h1 := Int.mul_le_mul b b (Int.mul_nonneg (Int.le_of_lt p5) a) (Int.mul_nonneg (Int.le_of_lt p7) (Int.le_of_lt hB))
    have h2 := Int.ediv_mul_le (Q * Q) (b := B) (by omega)
    generalize Q * Q / B = d at *
    have h3 := Int.mul_le_mul_of_nonneg_left h2 (Int.mul_nonneg (Int.le_of_lt p5) (Int.le_of_lt p5))
    have e1 : F * F * (d * B) = F * F * d * B := by grind
    have e2 : F * Q * (F * Q) = F * F * (Q * Q) := by grind
    have e3 : G * B * (G * B) = G * G * B * B := by grind
    rw [e1] at h3
    rw [e2, e3] at h1
    exact Int.le_of_mul_le_mul_right (Int.le_trans h3 h1) hB
/-- what one pass of power says -/
theorem pw_say {x : Int32} {f : Nat} {z : S2} (hf : f ≤ 18) (h : ¬ x < -20000000) (h2 : x ≤ 20000000) :
    ∃ k, k ≤ 700 ∧ pwT (1000000 ^ f) ((ab9 x).toInt * 1000000 ^ f / 1000000 / 64) k = 0 ∧ ok 0 (pw_P x f z).1 ∧ vv 0 (pw_P x f z).1 24 = pwQ (1000000 ^ f) (pwS (ng9 x) (1000000 ^ f) ((ab9 x).toInt * 1000000 ^ f / 1000000 / 64) k) 6 * 1000000000 ∧ (pw_V x f z).toInt = pwQ (1000000 ^ f) (pwS (ng9 x) (1000000 ^ f) ((ab9 x).toInt * 1000000 ^ f / 1000000 / 64) k) 6 * 1000000000 / 1000000 ^ f := by
  have hB := pw_pos f
  have h1 := (i32_le _ _).mp h2
  have h0 : ¬ x.toInt < -20000000 := fun q => h ((i32_lt _ _).mpr q)
  have e1 : (20000000 : Int32).toInt = 20000000 := rfl
  rw [e1] at h1
  obtain ⟨a, -, c⟩ := pw_x8 (f := f) (g := z.1) (x := x) (B := 20000000) (by omega) (by omega) h1 (by decide)
  have bd := ab9_bd (x := x) (B := 20000000) (by omega) h1 (by decide)
  have m := Int.mul_le_mul_of_nonneg_right bd.2 (Int.le_of_lt hB)
  have m0 := Int.mul_nonneg bd.1 (Int.le_of_lt hB)
  have hX : vv 8 (pw_x f x z.1) 24 ≤ 20 * 1000000 ^ f := by
    rw [c]
    generalize (ab9 x).toInt * 1000000 ^ f = M at *
    generalize (1000000 : Int) ^ f = B at *
    omega
  obtain ⟨k, k1, k2, k3, k4, k5⟩ := po_val (b := ng9 x) (p := z.2) hf a hX
  rw [c] at k2 k4
  have hS := pwS_14 (b := ng9 x) (B := 1000000 ^ f) (st := (ab9 x).toInt * 1000000 ^ f / 1000000 / 64) hB (by omega) (by generalize (ab9 x).toInt * 1000000 ^ f = M at *; generalize (1000000 : Int) ^ f = B at *; omega) k
  rw [k2] at hS
  have hSn : 0 ≤ pwS (ng9 x) (1000000 ^ f) ((ab9 x).toInt * 1000000 ^ f / 1000000 / 64) k := by
    obtain ⟨-, i2, i3, -⟩ := pw_val (b := ng9 x) (p := z.2) hf a hX k (by omega)
    obtain ⟨o0, -⟩ := pw_inv (b := ng9 x) (p := z.2) (show f ≤ 23 by omega) a (by omega) k (by omega)
    rw [c] at i2
    rw [← i2]; exact vv_nn o0
  obtain ⟨q0, q1⟩ := sq_14 hB hSn (by omega) 6
  refine ⟨k, k1, k2, ?_⟩
  generalize pwQ (1000000 ^ f) (pwS (ng9 x) (1000000 ^ f) ((ab9 x).toInt * 1000000 ^ f / 1000000 / 64) k) 6 = Q at *
  have hQ : Q * 1000000000 < 2 ^ 63 * 1000000 ^ f := by
    have e5 : (5 : Int) ^ (2 ^ 6) = 542101086242752217003726400434970855712890625 := by decide
    have e7 : (7 : Int) ^ (2 ^ 6) = 1219760487635835700138573862562971820755615294131238401 := by decide
    rw [e5, e7] at q1
    generalize (1000000 : Int) ^ f = B at *
    omega
  have t := tim_ok (r := 0) (m := 1000000000) k3 (by decide) (by decide)
  have e9 : (1000000000 : Int64).toInt = 1000000000 := rfl
  have room : Q * 1000000000 < 1000000 ^ 24 := by
    have r1 := pw_one (f := f + 4) (by omega)
    have e : (1000000 : Int) ^ (f + 4) = 1000000 ^ f * 1000000000000000000000000 := by rw [Int.pow_add]; rfl
    rw [e] at r1
    generalize (1000000 : Int) ^ f = B at *
    generalize (1000000 : Int) ^ 24 = P at *
    omega
  have tv := t.2.2 (by rw [k4, e9]; exact room)
  rw [k4, e9] at tv
  have EP : (pw_P x f z).1 = mr_tim 0 1000000000 (po f (ng9 x) (pw_x f x z.1) z.2).1 := rfl
  rw [EP]
  refine ⟨t.1, tv, ?_⟩
  have EV : pw_V x f z = mr_be f 0 (mr_tim 0 1000000000 (po f (ng9 x) (pw_x f x z.1) z.2).1) := rfl
  rw [EV, be_ok (by omega) t.1 (by rw [tv]; exact hQ), tv]
