/-! the reference's series: pure parts -/
def nL (n : Nat) : Int64 := Int64.ofNat n
theorem nL_toInt {n : Nat} (h : n < 2 ^ 63) : (nL n).toInt = n := Int64.toInt_ofNat_of_lt h
theorem nL_inj {a b : Nat} (ha : a < 2 ^ 63) (hb : b < 2 ^ 63) : nL a = nL b ↔ a = b := by
  rw [← Int64.toInt_inj, nL_toInt ha, nL_toInt hb]; omega
theorem nL_add (a b : Nat) : nL a + nL b = nL (a + b) := (Int64.ofNat_add a b).symm
theorem nL_mul (a b : Nat) : nL a * nL b = nL (a * b) := (Int64.ofNat_mul a b).symm
theorem nL_ne {n : Nat} (h0 : 0 < n) (h : n < 2 ^ 63) : ¬ nL n = 0 := fun q => by
  have := (nL_inj h (by omega)).mp (q.trans (show (0 : Int64) = nL 0 from rfl)); omega
theorem nI_toL {n : Nat} (h : n < 2 ^ 31) : (nI n).toInt64 = nL n := by
  rw [← Int64.toInt_inj, Int32.toInt_toInt64, nI_toInt h, nL_toInt (by omega)]
theorem md_q1 {n : Nat} (h0 : 0 < n) (h : n < 2 ^ 31) : ¬ (nI n).toInt64 = 0 := by
  rw [nI_toL h]; exact nL_ne h0 (by omega)
theorem md_q2 {n : Nat} (h : n < 2 ^ 30) : ¬ 2 * (nI n).toInt64 + 1 = 0 := by
  rw [nI_toL (by omega), show (2 : Int64) = nL 2 from rfl, show (1 : Int64) = nL 1 from rfl, nL_mul, nL_add]; exact nL_ne (by omega) (by omega)
theorem md_q3 {n : Nat} (h0 : 0 < n) (h : n < 2 ^ 30) : ¬ (nI n).toInt64 * (nI n + 1).toInt64 = 0 := by
  rw [show nI n + 1 = nI (n + 1) from nI_1 n, nI_toL (by omega), nI_toL (by omega), nL_mul]
  have h2 : n * (n + 1) < 2 ^ 30 * (2 ^ 30 + 1) := Nat.mul_lt_mul'' h (by omega)
  exact nL_ne (Nat.mul_pos h0 (by omega)) (by omega)
theorem md_inc2 (a : Nat) : nI a + 2 = nI (a + 2) := (nI_add a 2)
abbrev S2 : Type := (Nat → Int64) × (Nat → Int64)
def mq_mul (f r a b : Nat) (z : S2) : S2 := (mr_mul f r a b z.1 z.2, mr_mo a b z.1 z.2)
def pw_as (b q : Int32) (g : Nat → Int64) : Nat → Int64 := if b = 0 then mr_add 0 1 g else if q - q / 2 * 2 = 1 then mr_les 0 1 g else mr_add 0 1 g
def pw_st (f : Nat) (b q : Int32) (z : S2) : S2 := (pw_as b q (mr_by 1 q.toInt64 (mq_mul f 1 1 2 z).1), (mq_mul f 1 1 2 z).2)
def pw_0 (f : Nat) (g p : Nat → Int64) : S2 := (mr_wh f 1 1 (mr_wh f 0 1 (mr_by 2 64 (mr_cp 2 8 g))), p)
def pw_it (f : Nat) (b : Int32) (g p : Nat → Int64) : Nat → S2
  | 0 => pw_0 f g p
  | n + 1 => pw_st f b (nI (n + 1)) (pw_it f b g p n)
def pw_sq (f : Nat) (z : S2) : Nat → S2
  | 0 => z
  | n + 1 => mq_mul f 0 0 0 (pw_sq f z n)
def ra_st (f : Nat) (q : Int32) (z : S2) : S2 := (mr_add 0 5 (mr_by 5 q.toInt64 (mr_cp 5 1 (mq_mul f 1 1 2 z).1)), (mq_mul f 1 1 2 z).2)
def ra_0 (f : Nat) (v q : Int64) (g p : Nat → Int64) : S2 := mq_mul f 2 1 1 (mr_cp 0 1 (mr_by 1 q (mr_wh f 1 v g)), p)
def ra_it (f : Nat) (v q : Int64) (g p : Nat → Int64) : Nat → S2
  | 0 => ra_0 f v q g p
  | n + 1 => ra_st f (nI (3 + 2 * n)) (ra_it f v q g p n)
def ra_end (z : S2) : S2 := (mr_tim 0 2 z.1, z.2)
def ao_as (r : Nat) (q : Int32) (g : Nat → Int64) : Nat → Int64 := if q - q / 4 * 4 = 3 then mr_les r 5 g else mr_add r 5 g
def ao_st (r : Nat) (n : Int64) (q : Int32) (g : Nat → Int64) : Nat → Int64 := ao_as r q (mr_by 5 q.toInt64 (mr_cp 5 1 (mr_by 1 (n * n) g)))
def ao_0 (f r : Nat) (n o : Int64) (g : Nat → Int64) : Nat → Int64 := mr_cp r 1 (mr_by 1 n (mr_wh f 1 o g))
def ao_it (f r : Nat) (n o : Int64) (g : Nat → Int64) : Nat → (Nat → Int64)
  | 0 => ao_0 f r n o g
  | k + 1 => ao_st r n (nI (3 + 2 * k)) (ao_it f r n o g k)
def an_st (a al : Int64) (q : Int32) (g : Nat → Int64) : Nat → Int64 := mr_add 0 1 (mr_by 1 (2 * q.toInt64 + 1) (mr_tim 1 (2 * q.toInt64) (mr_by 1 al (mr_tim 1 (a * a) g))))
def an_0 (f : Nat) (a b : Int64) (g : Nat → Int64) : Nat → Int64 := mr_cp 0 1 (mr_by 1 (a * a + b * b) (mr_wh f 1 (a * b) g))
def an_it (f : Nat) (a b : Int64) (g : Nat → Int64) : Nat → (Nat → Int64)
  | 0 => an_0 f a b g
  | k + 1 => an_st a (a * a + b * b) (nI (k + 1)) (an_it f a b g k)
def qu_as (z : Int32) (q : Int32) (g : Nat → Int64) : Nat → Int64 := if (q + z) - (q + z) / 4 * 4 = 2 then mr_les 0 1 g else mr_add 0 1 g
def qu_st (f : Nat) (z q : Int32) (x : S2) : S2 := (qu_as z q (mr_by 1 (q.toInt64 * (q + 1).toInt64) (mq_mul f 1 1 2 x).1), (mq_mul f 1 1 2 x).2)
def qu_1 (f : Nat) (z : Int32) (g : Nat → Int64) : Nat → Int64 := if z = 0 then mr_cp 1 8 g else mr_wh f 1 1 g
def qu_0 (f : Nat) (z : Int32) (g p : Nat → Int64) : S2 := (mr_cp 0 1 (qu_1 f z (mq_mul f 2 8 8 (g, p)).1), (mq_mul f 2 8 8 (g, p)).2)
def qu_n (z : Int32) : Nat := if z = 0 then 2 else 1
def qu_b (z : Int32) : Int32 := if z = 0 then 0 else 1
def qu_it (f : Nat) (z : Int32) (g p : Nat → Int64) : Nat → S2
  | 0 => qu_0 f z g p
  | k + 1 => qu_st f (qu_b z) (nI (qu_n z + 2 * k)) (qu_it f z g p k)
def lg_two : Nat → Int64
  | 0 => 1
  | k + 1 => 2 * lg_two k
