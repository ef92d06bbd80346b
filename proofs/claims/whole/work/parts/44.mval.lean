/-! what a register holds -/
theorem tI_fit {n : Int} (h1 : -(2 ^ 63) ≤ n) (h2 : n < 2 ^ 63) : n.bmod (2 ^ 64) = n := Int.bmod_eq_of_le (by omega) (by omega)
theorem tI_add {a b : Int64} (h1 : -(2 ^ 63) ≤ a.toInt + b.toInt) (h2 : a.toInt + b.toInt < 2 ^ 63) : (a + b).toInt = a.toInt + b.toInt := by
  rw [Int64.toInt_add, tI_fit h1 h2]
theorem tI_sub {a b : Int64} (h1 : -(2 ^ 63) ≤ a.toInt - b.toInt) (h2 : a.toInt - b.toInt < 2 ^ 63) : (a - b).toInt = a.toInt - b.toInt := by
  rw [Int64.toInt_sub, tI_fit h1 h2]
theorem tI_mul {a b : Int64} (h1 : -(2 ^ 63) ≤ a.toInt * b.toInt) (h2 : a.toInt * b.toInt < 2 ^ 63) : (a * b).toInt = a.toInt * b.toInt := by
  rw [Int64.toInt_mul, tI_fit h1 h2]
theorem tI_bd (a : Int64) : -(2 ^ 63) ≤ a.toInt ∧ a.toInt < 2 ^ 63 := ⟨Int64.le_toInt a, Int64.toInt_lt a⟩
theorem tI_div {a b : Int64} (ha : 0 ≤ a.toInt) (hb : 0 < b.toInt) : (a / b).toInt = a.toInt / b.toInt := by
  rw [Int64.toInt_div, Int.tdiv_eq_ediv_of_nonneg ha]
  have h1 : 0 ≤ a.toInt / b.toInt := Int.ediv_nonneg ha (Int.le_of_lt hb)
  have h2 : a.toInt / b.toInt ≤ a.toInt := Int.ediv_le_self _ ha
  have := (tI_bd a).2
  exact tI_fit (by omega) (by omega)
theorem tI_rem {a b : Int64} (ha : 0 ≤ a.toInt) (hb : 0 < b.toInt) : (pu_rem a b).toInt = a.toInt % b.toInt := by
  have h1 : 0 ≤ a.toInt / b.toInt := Int.ediv_nonneg ha (Int.le_of_lt hb)
  have h0 := Int.mul_ediv_add_emod a.toInt b.toInt
  have h3 := Int.emod_nonneg a.toInt (Int.ne_of_gt hb)
  have h5 := Int.emod_lt_of_pos a.toInt hb
  have h4 := (tI_bd a).2
  have hc : a.toInt / b.toInt * b.toInt = b.toInt * (a.toInt / b.toInt) := Int.mul_comm _ _
  have hp : 0 ≤ b.toInt * (a.toInt / b.toInt) := Int.mul_nonneg (Int.le_of_lt hb) h1
  have hm : (a / b * b).toInt = a.toInt / b.toInt * b.toInt := by
    rw [tI_mul] <;> rw [tI_div ha hb] <;> omega
  unfold pu_rem
  rw [tI_sub] <;> rw [hm] <;> omega
def vv (r : Nat) (g : Nat → Int64) : Nat → Int
  | 0 => 0
  | k + 1 => vv r g k + (g (24 * r + k)).toInt * 1000000 ^ k
def tv (r : Nat) (g : Nat → Int64) : Nat → Int
  | 0 => 0
  | k + 1 => tv r g k * 1000000 + (g (24 * r + (23 - k))).toInt
theorem vv_s (r : Nat) (g : Nat → Int64) (k : Nat) : vv r g (k + 1) = vv r g k + (g (24 * r + k)).toInt * 1000000 ^ k := rfl
theorem tv_s (r : Nat) (g : Nat → Int64) (k : Nat) : tv r g (k + 1) = tv r g k * 1000000 + (g (24 * r + (23 - k))).toInt := rfl
/-- every part of register r is a part -/
def ok (r : Nat) (g : Nat → Int64) : Prop := ∀ k, k < 24 → 0 ≤ (g (24 * r + k)).toInt ∧ (g (24 * r + k)).toInt < 1000000
theorem vv_cong {r : Nat} {g h : Nat → Int64} : ∀ k, (∀ j, j < k → h (24 * r + j) = g (24 * r + j)) → vv r h k = vv r g k
  | 0, _ => rfl
  | k + 1, H => by rw [vv_s, vv_s, vv_cong k (fun j hj => H j (by omega)), H k (by omega)]
theorem tv_cong {r : Nat} {g h : Nat → Int64} : ∀ k, k ≤ 24 → (∀ j, j < k → h (24 * r + (23 - j)) = g (24 * r + (23 - j))) → tv r h k = tv r g k
  | 0, _, _ => rfl
  | k + 1, hk, H => by rw [tv_s, tv_s, tv_cong k (by omega) (fun j hj => H j (by omega)), H k (by omega)]
theorem ok_cong {r : Nat} {g h : Nat → Int64} (H : ∀ j, j < 24 → h (24 * r + j) = g (24 * r + j)) (o : ok r g) : ok r h := fun k hk => by rw [H k hk]; exact o k hk
theorem tv_vv (r : Nat) (g : Nat → Int64) : ∀ k, k ≤ 24 → tv r g k * 1000000 ^ (24 - k) + vv r g (24 - k) = vv r g 24
  | 0, _ => by unfold tv; simp
  | k + 1, hk => by
    rw [← tv_vv r g k (by omega)]
    obtain ⟨n, hn⟩ : ∃ n, 24 - k = n + 1 := ⟨23 - k, by omega⟩
    rw [show 24 - (k + 1) = n by omega, hn]
    rw [tv_s, vv_s, show 23 - k = n by omega, Int.pow_succ]
    grind
theorem tv_24 (r : Nat) (g : Nat → Int64) : tv r g 24 = vv r g 24 := by
  have := tv_vv r g 24 (by omega)
  simpa [vv] using this
theorem vv_bd {r : Nat} {g : Nat → Int64} (o : ok r g) : ∀ k, k ≤ 24 → 0 ≤ vv r g k ∧ vv r g k < 1000000 ^ k
  | 0, _ => by unfold vv; decide
  | k + 1, hk => by
    have h := vv_bd o k (by omega)
    have hd := o k (by omega)
    have hp : (0 : Int) < 1000000 ^ k := Int.pow_pos (by decide)
    rw [vv_s, Int.pow_succ]
    have h1 : 0 ≤ (g (24 * r + k)).toInt * 1000000 ^ k := Int.mul_nonneg hd.1 (Int.le_of_lt hp)
    have h2 : (g (24 * r + k)).toInt * 1000000 ^ k ≤ 999999 * 1000000 ^ k := Int.mul_le_mul_of_nonneg_right (by omega) (Int.le_of_lt hp)
    omega
theorem up_eq (g : Nat → Int64) (i : Nat) (v : Int64) : vp_updL g i v i = v := by simp [vp_updL]
theorem up_ne (g : Nat → Int64) {i j : Nat} (v : Int64) (h : j ≠ i) : vp_updL g i v j = g j := by simp [vp_updL, h]
