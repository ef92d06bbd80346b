/-! the class's wide numbers over Nat: limbs as unsigned words -/
def un (x : Int64) : Nat := x.toBitVec.toNat
theorem un_lt (x : Int64) : un x < 2 ^ 64 := x.toBitVec.isLt
theorem un_inj {x y : Int64} (h : un x = un y) : x = y := Int64.toBitVec_inj.mp (BitVec.eq_of_toNat_eq h)
theorem un_add (x y : Int64) : un (x + y) = (un x + un y) % 2 ^ 64 := by
  unfold un; rw [Int64.toBitVec_add, BitVec.toNat_add]
theorem un_mul (x y : Int64) : un (x * y) = un x * un y % 2 ^ 64 := by
  unfold un; rw [Int64.toBitVec_mul, BitVec.toNat_mul]
theorem un_and32 (x : Int64) : un (x &&& 4294967295) = un x % 2 ^ 32 := by
  unfold un
  rw [Int64.toBitVec_and, BitVec.toNat_and, show (4294967295 : Int64).toBitVec.toNat = 2 ^ 32 - 1 from rfl, Nat.and_two_pow_sub_one_eq_mod]
theorem un_and16 (x : Int64) : un (x &&& 65535) = un x % 2 ^ 16 := by
  unfold un
  rw [Int64.toBitVec_and, BitVec.toNat_and, show (65535 : Int64).toBitVec.toNat = 2 ^ 16 - 1 from rfl, Nat.and_two_pow_sub_one_eq_mod]
theorem un_us32 (x : Int64) : un (pu_us x 32) = un x / 2 ^ 32 := by
  show (x.toUInt64 >>> ((32 : Int32).toInt64.toUInt64 &&& Int64.toUInt64 63)).toNat = _
  rw [UInt64.toNat_shiftRight, show ((32 : Int32).toInt64.toUInt64 &&& Int64.toUInt64 63).toNat % 64 = 32 by decide, Nat.shiftRight_eq_div_pow]
  rfl
theorem un_us16 (x : Int64) : un (pu_us x 16) = un x / 2 ^ 16 := by
  show (x.toUInt64 >>> ((16 : Int32).toInt64.toUInt64 &&& Int64.toUInt64 63)).toNat = _
  rw [UInt64.toNat_shiftRight, show ((16 : Int32).toInt64.toUInt64 &&& Int64.toUInt64 63).toNat % 64 = 16 by decide, Nat.shiftRight_eq_div_pow]
  rfl
theorem un_toInt {x : Int64} (h : un x < 2 ^ 63) : x.toInt = un x := by
  show x.toBitVec.toInt = _
  rw [BitVec.toInt_eq_toNat_cond]
  unfold un at *
  rw [if_pos (by omega)]
theorem toInt_un {x : Int64} (h : 0 ≤ x.toInt) : (un x : Int) = x.toInt := by
  have h2 : x.toInt = x.toBitVec.toInt := rfl
  rw [BitVec.toInt_eq_toNat_cond] at h2
  unfold un
  have := x.toBitVec.isLt
  split at h2 <;> omega
theorem un_nL {n : Nat} (h : n < 2 ^ 64) : un (nL n) = n := by
  show (BitVec.ofNat 64 n).toNat = n
  rw [BitVec.toNat_ofNat]; exact Nat.mod_eq_of_lt h
/-- what a row of limbs comes to -/
def uv (w : Nat → Int64) : Nat → Nat
  | 0 => 0
  | k + 1 => uv w k + un (w k) * 2 ^ (32 * k)
theorem uv_s (w : Nat → Int64) (k : Nat) : uv w (k + 1) = uv w k + un (w k) * 2 ^ (32 * k) := rfl
def okw (w : Nat → Int64) (n : Nat) : Prop := ∀ k, k < n → un (w k) < 2 ^ 32
theorem uv_cong {w v : Nat → Int64} : ∀ k, (∀ j, j < k → v j = w j) → uv v k = uv w k
  | 0, _ => rfl
  | k + 1, h => by rw [uv_s, uv_s, uv_cong k (fun j hj => h j (by omega)), h k (by omega)]
theorem uv_lt {w : Nat → Int64} : ∀ k, okw w k → uv w k < 2 ^ (32 * k)
  | 0, _ => by show 0 < 2 ^ 0; decide
  | k + 1, h => by
    have h1 := uv_lt k (fun j hj => h j (by omega))
    have h2 := h k (by omega)
    have h3 : (un (w k) + 1) * 2 ^ (32 * k) ≤ 2 ^ 32 * 2 ^ (32 * k) := Nat.mul_le_mul_right _ (by omega)
    have e : 2 ^ (32 * (k + 1)) = 2 ^ 32 * 2 ^ (32 * k) := by rw [← Nat.pow_add]; congr 1; omega
    rw [uv_s, e]
    rw [Nat.add_mul, Nat.one_mul] at h3
    omega
theorem uv_fl (f : Nat → Int64) : ∀ k, k ≤ 7 → uv (wd_fl f 0 7) k = 0
  | 0, _ => rfl
  | k + 1, h => by
    rw [uv_s, uv_fl f k (by omega), show wd_fl f 0 7 k = 0 by unfold wd_fl; exact if_pos (by omega), show un 0 = 0 from rfl]; simp
/-- two words among noughts -/
theorem two_ok {f w : Nat → Int64} {i : Nat} {a b : Int64} (hi : i < 6) (ha : un a < 2 ^ 32) (hb : un b < 2 ^ 32) (e : w = vp_updL (vp_updL (wd_fl f 0 7) i a) (i + 1) b) : okw w 7 ∧ ∀ k, k ≤ 7 → uv w k = (if i < k then un a * 2 ^ (32 * i) else 0) + (if i + 1 < k then un b * 2 ^ (32 * (i + 1)) else 0) := by
  have hz : un 0 = 0 := rfl
  have e1 : ∀ k, k < 7 → w k = if k = i + 1 then b else if k = i then a else 0 := fun k hk => by
    rw [e]
    by_cases h1 : k = i + 1
    · rw [h1, up_eq, if_pos rfl]
    · rw [up_ne _ _ h1, if_neg h1]
      by_cases h0 : k = i
      · rw [h0, up_eq, if_pos rfl]
      · rw [up_ne _ _ h0, if_neg h0]; unfold wd_fl; exact if_pos hk
  refine ⟨fun k hk => ?_, fun k => ?_⟩
  · rw [e1 k hk]
    by_cases h1 : k = i + 1
    · rw [if_pos h1]; exact hb
    · rw [if_neg h1]
      by_cases h0 : k = i
      · rw [if_pos h0]; exact ha
      · rw [if_neg h0, hz]; decide
  · induction k with
    | zero => intro _; show 0 = _; rw [if_neg (by omega), if_neg (by omega)]
    | succ k ih =>
      intro hk
      rw [uv_s, ih (by omega), e1 k (by omega)]
      by_cases h1 : k = i + 1
      · subst h1; rw [if_pos rfl, if_pos (by omega), if_neg (by omega), if_pos (by omega), if_pos (by omega)]; omega
      · rw [if_neg h1]
        by_cases h0 : k = i
        · subst h0; rw [if_pos rfl, if_neg (by omega), if_neg (by omega), if_pos (by omega), if_neg (by omega)]; omega
        · rw [if_neg h0, hz]
          by_cases h2 : i < k
          · rw [if_pos h2, if_pos (by omega), if_pos (by omega), if_pos (by omega)]; omega
          · rw [if_neg h2, if_neg (by omega), if_neg (by omega), if_neg (by omega)]; omega
/-- loadInteger -/
theorem loadI_ok {f : Nat → Int64} {x : Int64} : okw (wr_loadI f x) 7 ∧ uv (wr_loadI f x) 7 = un x := by
  unfold wr_loadI
  rw [ir_eq]
  have hb := un_lt x
  obtain ⟨a, b⟩ := two_ok (f := f) (w := wd_loadI f x) (i := 0) (a := x &&& 4294967295) (b := pu_us x 32) (by decide) (by rw [un_and32]; omega) (by rw [un_us32]; omega) rfl
  refine ⟨a, ?_⟩
  rw [b 7 (Nat.le_refl _), if_pos (by decide), if_pos (by decide), un_and32, un_us32]
  generalize un x = n at *
  omega
/-- load -/
theorem load_ok {f : Nat → Int64} {x : Int64} : okw (wr_load f x) 7 ∧ uv (wr_load f x) 7 = un x * 2 ^ 160 := by
  unfold wr_load
  rw [ir_eq]
  have hb := un_lt x
  obtain ⟨a, b⟩ := two_ok (f := f) (w := wd_load f x) (i := 5) (a := x &&& 4294967295) (b := pu_us x 32) (by decide) (by rw [un_and32]; omega) (by rw [un_us32]; omega) rfl
  refine ⟨a, ?_⟩
  rw [b 7 (Nat.le_refl _), if_pos (by decide), if_pos (by decide), un_and32, un_us32]
  generalize un x = n at *
  omega
theorem p32s (k : Nat) : 2 ^ (32 * (k + 1)) = 2 ^ (32 * k) * 4294967296 := by
  rw [show 32 * (k + 1) = 32 * k + 32 by omega, Nat.pow_add]
theorem okw_up {w : Nat → Int64} {n i : Nat} {v : Int64} (h : okw w n) (hv : un v < 2 ^ 32) : okw (vp_updL w i v) n := fun k hk => by
  by_cases e : k = i
  · rw [e, up_eq]; exact hv
  · rw [up_ne _ _ e]; exact h k hk
theorem uv_upn {w : Nat → Int64} {i : Nat} {v : Int64} : ∀ n, n ≤ i → uv (vp_updL w i v) n = uv w n := fun n h => uv_cong n (fun j hj => up_ne w v (show j ≠ i by omega))
theorem uv_up {w : Nat → Int64} {i : Nat} {v : Int64} : ∀ n, i < n → uv (vp_updL w i v) n + un (w i) * 2 ^ (32 * i) = uv w n + un v * 2 ^ (32 * i)
  | 0, h => absurd h (Nat.not_lt_zero _)
  | n + 1, h => by
    rw [uv_s, uv_s]
    by_cases e : i = n
    · subst e; rw [uv_upn i (Nat.le_refl _), up_eq]; omega
    · have := uv_up (w := w) (i := i) (v := v) n (by omega)
      rw [up_ne _ _ (by omega : n ≠ i)]; omega
/-! scale -/
theorem sc_ring (A F c P q m s : Nat) (X K : Nat) (h : A + c * P = F * K) (d : s = X * K + c) (e : q * 4294967296 + m = s) : A + m * P + q * (P * 4294967296) = (F + X * P) * K := by
  have h1 : q * (P * 4294967296) + m * P = s * P := by rw [← e]; grind
  have h2 : (F + X * P) * K = F * K + X * K * P := by grind
  have h3 : s * P = X * K * P + c * P := by rw [d]; grind
  omega
theorem scl_inv {f : Nat → Int64} {k : Int64} (hf : okw f 7) (hk : un k < 2 ^ 31) : ∀ i, i ≤ 7 →
    okw (wd_scl f k i).1 7 ∧ (∀ j, i ≤ j → (wd_scl f k i).1 j = f j) ∧ un (wd_scl f k i).2 < 2 ^ 32 ∧ uv (wd_scl f k i).1 i + un (wd_scl f k i).2 * 2 ^ (32 * i) = uv f i * un k
  | 0, _ => ⟨hf, fun _ _ => rfl, by show un 0 < _; decide, by show uv f 0 + un 0 * _ = uv f 0 * _; rw [show un 0 = 0 from rfl, show uv f 0 = 0 from rfl]; omega⟩
  | i + 1, h => by
    have IH := scl_inv hf hk i (by omega)
    have E : wd_scl f k (i + 1) = (vp_updL (wd_scl f k i).1 i (((wd_scl f k i).1 i * k + (wd_scl f k i).2) &&& 4294967295), pu_us ((wd_scl f k i).1 i * k + (wd_scl f k i).2) 32) := rfl
    rw [E]
    generalize wd_scl f k i = Z at *
    obtain ⟨z, c⟩ := Z
    obtain ⟨h1, h2, h3, h4⟩ := IH
    dsimp only at h1 h2 h3 h4 ⊢
    have hfi := hf i (by omega)
    rw [h2 i (Nat.le_refl _)]
    have hm : un (f i) * un k ≤ (2 ^ 32 - 1) * (2 ^ 31 - 1) := Nat.mul_le_mul (by omega) (by omega)
    have es : un (f i * k + c) = un (f i) * un k + un c := by rw [un_add, un_mul, Nat.mod_eq_of_lt (a := un (f i) * un k) (by omega), Nat.mod_eq_of_lt (by omega)]
    have hu : un ((f i * k + c) &&& 4294967295) = (un (f i) * un k + un c) % 2 ^ 32 := by rw [un_and32, es]
    have hv : un (pu_us (f i * k + c) 32) = (un (f i) * un k + un c) / 2 ^ 32 := by rw [un_us32, es]
    refine ⟨okw_up h1 (by rw [hu]; omega), fun j hj => by rw [up_ne _ _ (by omega)]; exact h2 j (by omega), by rw [hv]; omega, ?_⟩
    rw [uv_s, uv_upn i (Nat.le_refl _), up_eq, uv_s, hu, hv, p32s]
    exact sc_ring (uv z i) (uv f i) (un c) (2 ^ (32 * i)) _ _ (un (f i) * un k + un c) (un (f i)) (un k) h4 rfl (by omega)
theorem scl_ok {f : Nat → Int64} {k : Int64} (hf : okw f 7) (hk : un k < 2 ^ 31) : okw (wr_scl f k) 7 ∧ uv (wr_scl f k) 7 = uv f 7 * un k % 2 ^ 224 := by
  unfold wr_scl
  rw [ir_eq]
  obtain ⟨h1, -, -, h4⟩ := scl_inv hf hk 7 (Nat.le_refl _)
  refine ⟨h1, ?_⟩
  have h5 := uv_lt 7 h1
  rw [← h4, show 32 * 7 = 224 from rfl] at *
  rw [Nat.add_mul_mod_self_right, Nat.mod_eq_of_lt h5]
/-! isAbove -/
theorem lt_un {a b : Int64} (ha : un a < 2 ^ 32) (hb : un b < 2 ^ 32) : a < b ↔ un a < un b := by
  rw [i64_lt, un_toInt (by omega), un_toInt (by omega)]; omega
theorem ab_inv {f g : Nat → Int64} : ∀ k, okw f k → okw g k → (wd_ab f g k = 0 ↔ uv f k ≤ uv g k)
  | 0, _, _ => ⟨fun _ => Nat.le_refl _, fun _ => rfl⟩
  | k + 1, hf, hg => by
    have ih := ab_inv k (fun j hj => hf j (by omega)) (fun j hj => hg j (by omega))
    have a := uv_lt k (fun j hj => hf j (by omega))
    have b := uv_lt k (fun j hj => hg j (by omega))
    have E : wd_ab f g (k + 1) = if f k = g k then wd_ab f g k else if g k < f k then 1 else 0 := rfl
    rw [E, uv_s, uv_s]
    by_cases h : f k = g k
    · rw [if_pos h, ih, h]; omega
    · rw [if_neg h]
      have hne : un (f k) ≠ un (g k) := fun q => h (un_inj q)
      by_cases h2 : g k < f k
      · have h3 := (lt_un (hg k (by omega)) (hf k (by omega))).mp h2
        have h4 : (un (g k) + 1) * 2 ^ (32 * k) ≤ un (f k) * 2 ^ (32 * k) := Nat.mul_le_mul_right _ h3
        rw [Nat.add_mul, Nat.one_mul] at h4
        rw [if_pos h2]
        exact ⟨fun q => absurd q (by decide), fun q => absurd q (by omega)⟩
      · have h3 : ¬ un (g k) < un (f k) := fun q => h2 ((lt_un (hg k (by omega)) (hf k (by omega))).mpr q)
        have h4 : (un (f k) + 1) * 2 ^ (32 * k) ≤ un (g k) * 2 ^ (32 * k) := Nat.mul_le_mul_right _ (by omega)
        rw [Nat.add_mul, Nat.one_mul] at h4
        rw [if_neg h2]
        exact ⟨fun _ => by omega, fun _ => rfl⟩
theorem ab_ok {f g : Nat → Int64} (hf : okw f 7) (hg : okw g 7) : wr_ab f g = 0 ↔ uv f 7 ≤ uv g 7 := by
  unfold wr_ab
  rw [ir_eq]
  exact ab_inv 7 hf hg
