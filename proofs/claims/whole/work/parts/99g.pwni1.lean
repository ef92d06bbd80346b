/-! the constants of power's rows -/
def pn_q (b : Bool) : Nat := if b then 1606937994042177177086224731680455265574441979395516176734298 else 1606938094475804943273133299672188606379058634162360541922430
def pn_c (b : Bool) : Nat := if b then 5192291666240565241266752619127887 else 5192302050834282312652775299632241
def pn_G (b : Bool) : Nat := if b then 1292768176834356760401867441403004 else 1303402030534987961730502856545941
def pn_s (b : Bool) : Nat := if b then 1208924610689414022785321022180814 else 1208927028541053252446645707737711
theorem pn_q0 (b : Bool) : nb ((pn_q b : Rat) - ((2 ^ 200 : Nat) : Rat) * bt b) 1 := by
  have k := bt_near b
  have h1 : nb ((pn_q b : Rat) - ((2 ^ 200 : Nat) : Rat) * eS (sg b dl) 12) (3/4) := by
    unfold nb; cases b <;> decide +kernel
  have h2 : ((2 ^ 200 : Nat) : Rat) * eT dl 12 ≤ 1/4 := by decide +kernel
  have p : (0 : Rat) ≤ ((2 ^ 200 : Nat) : Rat) := Rat.natCast_nonneg
  generalize ((2 ^ 200 : Nat) : Rat) = P at *
  have m := nb_mul k (show nb P P from ⟨by grind, by grind⟩)
  obtain ⟨a1, a2⟩ := m
  obtain ⟨b1, b2⟩ := h1
  constructor <;> grind
theorem pn_m (b : Bool) : ∀ j, j < 17 → 20 * (sqc (2 ^ 200) (pn_q b) j + 5 ^ j) ≤ 21 * 2 ^ 200 ∧ 5 ^ j ≤ 2 ^ 200 := by cases b <;> decide +kernel
theorem bt_0 (b : Bool) : 0 ≤ bt b := by
  have k := pn_q0 b
  have h : (2 : Rat) ≤ (pn_q b : Rat) := by cases b <;> decide +kernel
  have p : (0 : Rat) < ((2 ^ 200 : Nat) : Rat) := by decide +kernel
  exact Decidable.byContradiction (fun z => by
    have := Rat.mul_pos p (show 0 < -bt b by grind)
    have := k.2
    grind)
theorem pn_e (b : Bool) (j : Nat) (hj : j ≤ 17) : nb ((sqc (2 ^ 200) (pn_q b) j : Rat) - ((2 ^ 200 : Nat) : Rat) * bt b ^ (2 ^ j)) ((5 ^ j : Nat) : Rat) := sqc_err (by decide) (bt_0 b) (pn_q0 b) (pn_m b) j hj
/-- e to the millionth, or its inverse -/
def gg (b : Bool) : Rat := bt b ^ 32
theorem gg_0 (b : Bool) : 0 ≤ gg b := rp_nn (bt_0 b) 32
theorem gg_G (b : Bool) : bt b ^ (2 ^ 17) = gg b ^ 4096 := by
  unfold gg
  rw [← rp_mul]
theorem pn_c1 (b : Bool) : nb ((pn_c b : Rat) - gg b * ((2 ^ 112 : Nat) : Rat)) 1 := by
  have k := pn_e b 5 (by decide)
  have e : bt b ^ (2 ^ 5) = gg b := rfl
  have e2 : (2 ^ 200 : Nat) = 2 ^ 112 * 2 ^ 88 := by decide
  have e3 : ((2 ^ 200 : Nat) : Rat) = ((2 ^ 112 * 2 ^ 88 : Nat) : Rat) := congrArg (fun x : Nat => (x : Rat)) e2
  rw [e, e3] at k
  exact cut_err (A := 2 ^ 112) (D := 2 ^ 88) (q := sqc (2 ^ 200) (pn_q b) 5) (c := pn_c b) (e := 5 ^ 5) (x := gg b) (by decide) k (by cases b <;> decide +kernel) (by cases b <;> decide +kernel) (by decide)
theorem pn_G1 (b : Bool) : nb ((pn_G b : Rat) - gg b ^ 4096 * ((2 ^ 110 : Nat) : Rat)) 1 := by
  have k := pn_e b 17 (by decide)
  have e2 : (2 ^ 200 : Nat) = 2 ^ 110 * 2 ^ 90 := by decide
  have e3 : ((2 ^ 200 : Nat) : Rat) = ((2 ^ 110 * 2 ^ 90 : Nat) : Rat) := congrArg (fun x : Nat => (x : Rat)) e2
  rw [gg_G, e3] at k
  exact cut_err (A := 2 ^ 110) (D := 2 ^ 90) (q := sqc (2 ^ 200) (pn_q b) 17) (c := pn_G b) (e := 5 ^ 17) (x := gg b ^ 4096) (by decide) k (by cases b <;> decide +kernel) (by cases b <;> decide +kernel) (by decide)
theorem pn_s1 (b : Bool) : nb ((pn_s b : Rat) - 1000000000 * gg b * ((2 ^ 80 : Nat) : Rat)) 1 := by
  have k := pn_e b 5 (by decide)
  have k2 : nb (((1000000000 * sqc (2 ^ 200) (pn_q b) 5 : Nat) : Rat) - ((2 ^ 80 * 2 ^ 120 : Nat) : Rat) * (1000000000 * gg b)) ((1000000000 * 5 ^ 5 : Nat) : Rat) := by
    have e : bt b ^ (2 ^ 5) = gg b := rfl
    rw [e] at k
    have e2 : (2 ^ 80 * 2 ^ 120 : Nat) = 2 ^ 200 := by decide
    rw [e2, Rat.natCast_mul, Rat.natCast_mul]
    have e3 : ((1000000000 : Nat) : Rat) = 1000000000 := by simp
    rw [e3]
    generalize ((2 ^ 200 : Nat) : Rat) = P at *
    generalize ((5 ^ 5 : Nat) : Rat) = Q at *
    obtain ⟨a, c⟩ := k
    constructor <;> grind
  exact cut_err (A := 2 ^ 80) (D := 2 ^ 120) (q := 1000000000 * sqc (2 ^ 200) (pn_q b) 5) (c := pn_s b) (e := 1000000000 * 5 ^ 5) (x := 1000000000 * gg b) (by decide) k2 (by cases b <;> decide +kernel) (by cases b <;> decide +kernel) (by decide)
theorem gg_1 (b : Bool) : gg b ≤ 1 + 1/400000 := by
  have k := (pn_c1 b).1
  have h : (pn_c b : Rat) + 1 ≤ (1 + 1/400000) * ((2 ^ 112 : Nat) : Rat) := by cases b <;> decide +kernel
  have p : (0 : Rat) < ((2 ^ 112 : Nat) : Rat) := by decide +kernel
  generalize ((2 ^ 112 : Nat) : Rat) = P at *
  exact mul_cancel_le p (by grind)
theorem gG_1 (b : Bool) : gg b ^ 4096 ≤ 10042/10000 := by
  have k := (pn_G1 b).1
  have h : (pn_G b : Rat) + 1 ≤ 10042/10000 * ((2 ^ 110 : Nat) : Rat) := by cases b <;> decide +kernel
  have p : (0 : Rat) < ((2 ^ 110 : Nat) : Rat) := by decide +kernel
  generalize ((2 ^ 110 : Nat) : Rat) = P at *
  exact mul_cancel_le p (by grind)
theorem rp_le1 {g : Rat} (h0 : 0 ≤ g) (h : g ≤ 1) : ∀ n : Nat, g ^ n ≤ 1
  | 0 => by rw [Rat.pow_zero]; exact Rat.le_refl
  | n + 1 => by
    rw [Rat.pow_succ]
    have := Rat.mul_le_mul_of_nonneg_right (rp_le1 h0 h n) h0
    grind
theorem rp_up {g : Rat} (h : 1 ≤ g) (m : Nat) : ∀ n : Nat, g ^ m ≤ g ^ (m + n)
  | 0 => Rat.le_refl
  | n + 1 => by
    rw [← Nat.add_assoc, Rat.pow_succ]
    have a := rp_up h m n
    have b := rp_ge h (m + n)
    have := Rat.mul_le_mul_of_nonneg_right h (show 0 ≤ g ^ (m + n) by grind)
    grind
theorem gg_2 (b : Bool) (j : Nat) (hj : j ≤ 4096) : gg b ^ j ≤ 2 := by
  by_cases h : gg b ≤ 1
  · have := rp_le1 (gg_0 b) h j; grind
  · have a := rp_up (show 1 ≤ gg b by grind) j (4096 - j)
    rw [show j + (4096 - j) = 4096 by omega] at a
    have := gG_1 b
    grind
def lall (F f sm a c R one : Nat) : Nat → Nat → Bool
  | 0, _ => true
  | n + 1, s => (Nat.ble s sm && lchk F f R one s) && lall F f sm a c R one n (Nat.div (Nat.mul s c) a)
theorem hd_add {a c s0 : Nat} (i : Nat) : ∀ n, hd a c (hd a c s0 i) n = hd a c s0 (i + n)
  | 0 => rfl
  | n + 1 => by
    show hd a c (hd a c s0 i) n * c / a = hd a c s0 (i + n) * c / a
    rw [hd_add i n]
theorem hd_suc {a c : Nat} : ∀ n s, hd a c (s * c / a) n = hd a c s (n + 1)
  | 0, _ => rfl
  | n + 1, s => by
    show hd a c (s * c / a) n * c / a = hd a c s (n + 1) * c / a
    rw [hd_suc n s]
theorem lall_ok {F f sm a c R one : Nat} : ∀ n s, lall F f sm a c R one n s = true → ∀ i, i < n → hd a c s i ≤ sm ∧ lchk F f R one (hd a c s i) = true
  | 0, _, _, i, hi => absurd hi (by omega)
  | n + 1, s, h, i, hi => by
    have h' : ((Nat.ble s sm && lchk F f R one s) && lall F f sm a c R one n (Nat.div (Nat.mul s c) a)) = true := h
    rw [Bool.and_eq_true, Bool.and_eq_true] at h'
    obtain ⟨⟨h1, h2⟩, h3⟩ := h'
    cases i with
    | zero => exact ⟨Nat.le_of_ble_eq_true h1, h2⟩
    | succ i =>
      have := lall_ok n (s * c / a) h3 i (by omega)
      rw [hd_suc] at this
      exact this
/-- a head's row: 4096 lanes of 256 bits -/
def pn_row (b : Bool) : Nat := lrow 256 (2 ^ 112) (pn_c b) 4096 (2 ^ 112) 0 0
def pn_one : Nat := (2 ^ (256 * 4096) - 1) / (2 ^ 256 - 1)
def pn_hd (b : Bool) (i : Nat) : Nat := hd (2 ^ 110) (pn_G b) (pn_s b) i
