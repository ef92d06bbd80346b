/-! the class's wide numbers over Nat: negate, divide -/
theorem xor32 {x : Nat} (h : x < 2 ^ 32) : x ^^^ (2 ^ 32 - 1) = 2 ^ 32 - 1 - x := by
  have e := congrArg BitVec.toNat (BitVec.xor_allOnes (x := BitVec.ofNat 32 x))
  rw [BitVec.toNat_xor, BitVec.toNat_allOnes, BitVec.toNat_not, BitVec.toNat_ofNat, Nat.mod_eq_of_lt h] at e
  exact e
theorem un_xor {x : Int64} (h : un x < 2 ^ 32) : un (x ^^^ 4294967295) = 2 ^ 32 - 1 - un x := by
  have e : un (x ^^^ 4294967295) = un x ^^^ un 4294967295 := by unfold un; rw [Int64.toBitVec_xor, BitVec.toNat_xor]
  rw [e, show un 4294967295 = 2 ^ 32 - 1 from rfl, xor32 h]
theorem negw_inv {f : Nat → Int64} (hf : okw f 7) : ∀ i, i ≤ 7 →
    okw (wd_neg f i).1 7 ∧ (∀ j, i ≤ j → (wd_neg f i).1 j = f j) ∧ un (wd_neg f i).2 ≤ 1 ∧ uv (wd_neg f i).1 i + uv f i + un (wd_neg f i).2 * 2 ^ (32 * i) = 2 ^ (32 * i)
  | 0, _ => ⟨hf, fun _ _ => rfl, by show un 1 ≤ _; decide, by show uv f 0 + uv f 0 + un 1 * 2 ^ 0 = 2 ^ 0; rw [show un 1 = 1 from rfl, show uv f 0 = 0 from rfl]⟩
  | i + 1, h => by
    have IH := negw_inv hf i (by omega)
    have E : wd_neg f (i + 1) = (vp_updL (wd_neg f i).1 i (((wd_neg f i).1 i ^^^ 4294967295) + (wd_neg f i).2 &&& 4294967295), pu_us (((wd_neg f i).1 i ^^^ 4294967295) + (wd_neg f i).2) 32) := rfl
    rw [E]
    generalize wd_neg f i = Z at *
    obtain ⟨z, c⟩ := Z
    obtain ⟨h1, h2, h3, h4⟩ := IH
    dsimp only at h1 h2 h3 h4 ⊢
    have hfi := hf i (by omega)
    rw [h2 i (Nat.le_refl _)]
    have es : un ((f i ^^^ 4294967295) + c) = 2 ^ 32 - 1 - un (f i) + un c := by rw [un_add, un_xor hfi, Nat.mod_eq_of_lt (by omega)]
    have hu : un ((f i ^^^ 4294967295) + c &&& 4294967295) = (2 ^ 32 - 1 - un (f i) + un c) % 2 ^ 32 := by rw [un_and32, es]
    have hv : un (pu_us ((f i ^^^ 4294967295) + c) 32) = (2 ^ 32 - 1 - un (f i) + un c) / 2 ^ 32 := by rw [un_us32, es]
    refine ⟨okw_up h1 (by rw [hu]; omega), fun j hj => by rw [up_ne _ _ (by omega)]; exact h2 j (by omega), by rw [hv]; omega, ?_⟩
    rw [uv_s, uv_upn i (Nat.le_refl _), up_eq, uv_s, hu, hv, p32s]
    generalize 2 ^ (32 * i) = P at *
    generalize uv z i = A at *
    generalize uv f i = F at *
    generalize un c = k at *
    generalize un (f i) = x at *
    rcases (show (k = 1 ∧ x = 0) ∨ ¬ (k = 1 ∧ x = 0) by omega) with ⟨e1, e2⟩ | e
    · subst e1; subst e2
      rw [show (2 ^ 32 - 1 - 0 + 1) % 2 ^ 32 = 0 from rfl, show (2 ^ 32 - 1 - 0 + 1) / 2 ^ 32 = 1 from rfl]; omega
    · rw [Nat.mod_eq_of_lt (by omega), Nat.div_eq_of_lt (by omega)]
      have e9 : (2 ^ 32 - 1 - x + k) * P + x * P = (2 ^ 32 - 1 + k) * P := by rw [← Nat.add_mul]; congr 1; omega
      have e8 : (2 ^ 32 - 1 + k) * P = P * 4294967296 - P + k * P := by rw [Nat.add_mul, Nat.sub_mul]; omega
      omega
theorem negw_ok {f : Nat → Int64} (hf : okw f 7) : okw (wr_neg f) 7 ∧ uv (wr_neg f) 7 = (2 ^ 224 - uv f 7) % 2 ^ 224 := by
  unfold wr_neg
  rw [ir_eq]
  obtain ⟨h1, -, h3, h4⟩ := negw_inv hf 7 (Nat.le_refl _)
  refine ⟨h1, ?_⟩
  have h5 := uv_lt 7 h1
  have h6 := uv_lt 7 hf
  rw [show 32 * 7 = 224 from rfl] at *
  generalize uv (wd_neg f 7).1 7 = x at *
  generalize uv f 7 = y at *
  generalize un (wd_neg f 7).2 = c at *
  rcases (show c = 0 ∨ c = 1 by omega) with e | e
  · subst e; rw [show 2 ^ 224 - y = x by omega, Nat.mod_eq_of_lt h5]
  · subst e; rw [show 2 ^ 224 - y = 2 ^ 224 by omega, Nat.mod_self]; omega
/-! divide -/
theorem un_div {a b : Int64} (ha : un a < 2 ^ 63) (hb : un b < 2 ^ 63) (h0 : 0 < un b) : un (a / b) = un a / un b := by
  have e := tI_div (a := a) (b := b) (by rw [un_toInt ha]; omega) (by rw [un_toInt hb]; omega)
  rw [un_toInt ha, un_toInt hb] at e
  have h1 : 0 ≤ (a / b).toInt := by rw [e]; exact Int.ediv_nonneg (Int.natCast_nonneg _) (Int.natCast_nonneg _)
  have := toInt_un h1
  rw [e] at this
  exact Int.ofNat.inj this
theorem un_sl16 {a : Int64} (ha : un a < 2 ^ 47) : un (pu_sl a 16) = un a * 2 ^ 16 := by
  have e : un (pu_sl a 16) = (a.toBitVec <<< 16).toNat := rfl
  rw [e, BitVec.toNat_shiftLeft, Nat.shiftLeft_eq]
  show un a * 2 ^ 16 % 2 ^ 64 = _
  rw [Nat.mod_eq_of_lt (by omega)]
theorem un_or16 {a b : Int64} (ha : un a < 2 ^ 47) (hb : un b < 2 ^ 16) : un (pu_sl a 16 ||| b) = un a * 2 ^ 16 + un b := by
  have e : un (pu_sl a 16 ||| b) = un (pu_sl a 16) ||| un b := by unfold un; rw [Int64.toBitVec_or, BitVec.toNat_or]
  rw [e, un_sl16 ha, ← Nat.shiftLeft_eq, Nat.shiftLeft_add_eq_or_of_lt hb]
theorem un_subm {a b d : Int64} (h : un a < 2 ^ 63) (hd : 0 < un d) (hd2 : un d < 2 ^ 63) (hb : b = a / d) : un (a - b * d) = un a % un d := by
  have e1 : un b = un a / un d := by rw [hb, un_div h hd2 hd]
  have e2 : un a / un d * un d ≤ un a := Nat.div_mul_le_self _ _
  have e3 : un (b * d) = un a / un d * un d := by rw [un_mul, e1, Nat.mod_eq_of_lt (by omega)]
  have e4 := Nat.div_add_mod (un a) (un d)
  have e5 : un d * (un a / un d) = un a / un d * un d := Nat.mul_comm _ _
  rw [un_sub, e3]
  have := un_lt a
  generalize un a / un d * un d = q at *
  omega
theorem dv_key {U L d A C E G xl R : Nat} (d1 : d * A + E = U) (d2 : d * C + G = L) (el : L = E * 65536 + xl) (d3 : R = U * 65536 + xl) : R = (A * 65536 + C) * d + G := by
  have h : (A * 65536 + C) * d = d * A * 65536 + d * C := by grind
  rw [h, d3, ← d1, Nat.add_mul, Nat.add_assoc, ← el, ← d2, Nat.add_assoc]
theorem dm_of {R Q d G : Nat} (h : R = Q * d + G) (hG : G < d) : R / d = Q ∧ R % d = G := by
  subst h
  rw [Nat.add_comm]
  exact ⟨by rw [Nat.add_mul_div_right _ _ (by omega), Nat.div_eq_of_lt hG, Nat.zero_add], by rw [Nat.add_mul_mod_self_right, Nat.mod_eq_of_lt hG]⟩
/-- one limb -/
theorem dv_limb {r x d : Int64} (hd : 0 < un d) (hd2 : un d < 2 ^ 47) (hr : un r < un d) (hx : un x < 2 ^ 32) :
    un (pu_sl (wd_up r x / d) 16 ||| wd_lo d r x / d) = (un r * 2 ^ 32 + un x) / un d ∧ un (wd_lo d r x - wd_lo d r x / d * d) = (un r * 2 ^ 32 + un x) % un d ∧ un (pu_sl (wd_up r x / d) 16 ||| wd_lo d r x / d) < 2 ^ 32 := by
  have eu : un (wd_up r x) = un r * 2 ^ 16 + un x / 2 ^ 16 := by unfold wd_up; rw [un_or16 (by omega) (by rw [un_us16]; omega), un_us16]
  have hu : un (wd_up r x) < 2 ^ 63 := by rw [eu]; omega
  have em := un_subm (b := wd_up r x / d) hu hd (by omega) rfl
  have hm := Nat.mod_lt (un (wd_up r x)) hd
  have el : un (wd_lo d r x) = un (wd_up r x) % un d * 2 ^ 16 + un x % 2 ^ 16 := by unfold wd_lo; rw [un_or16 (by rw [em]; omega) (by rw [un_and16]; omega), un_and16, em]
  have hl : un (wd_lo d r x) < 2 ^ 63 := by rw [el]; omega
  have en := un_subm (b := wd_lo d r x / d) hl hd (by omega) rfl
  have eh : un (wd_up r x / d) = un (wd_up r x) / un d := un_div hu (by omega) hd
  have eo : un (wd_lo d r x / d) = un (wd_lo d r x) / un d := un_div hl (by omega) hd
  have bh : un (wd_up r x) / un d < 2 ^ 16 := by
    refine Nat.div_lt_of_lt_mul ?_
    rw [eu]
    have := Nat.mul_le_mul_right (2 ^ 16) (show un r + 1 ≤ un d by omega)
    rw [Nat.add_mul] at this
    omega
  have bl : un (wd_lo d r x) / un d < 2 ^ 16 := by
    refine Nat.div_lt_of_lt_mul ?_
    rw [el]
    have := Nat.mul_le_mul_right (2 ^ 16) (show un (wd_up r x) % un d + 1 ≤ un d by omega)
    rw [Nat.add_mul] at this
    omega
  have ef : un (pu_sl (wd_up r x / d) 16 ||| wd_lo d r x / d) = un (wd_up r x) / un d * 2 ^ 16 + un (wd_lo d r x) / un d := by rw [un_or16 (by rw [eh]; omega) (by rw [eo]; exact bl), eh, eo]
  have key : un r * 2 ^ 32 + un x = (un (wd_up r x) / un d * 65536 + un (wd_lo d r x) / un d) * un d + un (wd_lo d r x) % un d :=
    dv_key (Nat.div_add_mod (un (wd_up r x)) (un d)) (Nat.div_add_mod (un (wd_lo d r x)) (un d)) el (by rw [eu]; omega)
  have dm := dm_of key (Nat.mod_lt _ hd)
  exact ⟨by rw [ef, dm.1], by rw [en, dm.2], by rw [ef]; omega⟩
/-- from the top -/
def ut (w : Nat → Int64) : Nat → Nat
  | 0 => 0
  | k + 1 => ut w k * 2 ^ 32 + un (w (6 - k))
theorem ut_s (w : Nat → Int64) (k : Nat) : ut w (k + 1) = ut w k * 2 ^ 32 + un (w (6 - k)) := rfl
theorem ut_cong {w v : Nat → Int64} : ∀ k, k ≤ 7 → (∀ j, j < k → v (6 - j) = w (6 - j)) → ut v k = ut w k
  | 0, _, _ => rfl
  | k + 1, hk, h => by rw [ut_s, ut_s, ut_cong k (by omega) (fun j hj => h j (by omega)), h k (by omega)]
theorem ut_uv (w : Nat → Int64) : ut w 7 = uv w 7 := by
  have h : ut w 7 = ((((((0 * 2 ^ 32 + un (w 6)) * 2 ^ 32 + un (w 5)) * 2 ^ 32 + un (w 4)) * 2 ^ 32 + un (w 3)) * 2 ^ 32 + un (w 2)) * 2 ^ 32 + un (w 1)) * 2 ^ 32 + un (w 0) := rfl
  rw [h]
  simp only [uv_s, show uv w 0 = 0 from rfl]
  omega
theorem dq_ring (A F R d q m x y : Nat) (h : A * d + R = F) (e : y = q * d + m) (ey : y = R * 4294967296 + x) : (A * 4294967296 + q) * d + m = F * 4294967296 + x := by
  have h1 : (A * 4294967296 + q) * d = A * d * 4294967296 + q * d := by grind
  rw [h1]
  generalize A * d = p at *
  generalize q * d = z at *
  omega
theorem dvw_inv {f : Nat → Int64} {d : Int64} (hf : okw f 7) (hd : 0 < un d) (hd2 : un d < 2 ^ 47) : ∀ k, k ≤ 7 →
    okw (wd_dvs f d k).1 7 ∧ (∀ j, j + k < 7 → (wd_dvs f d k).1 j = f j) ∧ un (wd_dvs f d k).2 < un d ∧ ut (wd_dvs f d k).1 k * un d + un (wd_dvs f d k).2 = ut f k
  | 0, _ => ⟨hf, fun _ _ => rfl, hd, by show 0 * _ + un 0 = 0; rw [show un 0 = 0 from rfl]; omega⟩
  | k + 1, h => by
    have IH := dvw_inv hf hd hd2 k (by omega)
    have E : wd_dvs f d (k + 1) = (vp_updL (wd_dvs f d k).1 (6 - k) (pu_sl (wd_up (wd_dvs f d k).2 ((wd_dvs f d k).1 (6 - k)) / d) 16 ||| wd_lo d (wd_dvs f d k).2 ((wd_dvs f d k).1 (6 - k)) / d), wd_lo d (wd_dvs f d k).2 ((wd_dvs f d k).1 (6 - k)) - wd_lo d (wd_dvs f d k).2 ((wd_dvs f d k).1 (6 - k)) / d * d) := rfl
    rw [E]
    generalize wd_dvs f d k = Z at *
    obtain ⟨z, r⟩ := Z
    obtain ⟨h1, h2, h3, h4⟩ := IH
    dsimp only at h1 h2 h3 h4 ⊢
    rw [h2 (6 - k) (by omega)]
    obtain ⟨l1, l2, l3⟩ := dv_limb (r := r) (x := f (6 - k)) hd hd2 h3 (hf (6 - k) (by omega))
    refine ⟨okw_up h1 l3, fun j hj => by rw [up_ne _ _ (by omega)]; exact h2 j (by omega), by rw [l2]; exact Nat.mod_lt _ hd, ?_⟩
    rw [ut_s, ut_cong k (by omega) (fun j hj => up_ne z _ (show 6 - j ≠ 6 - k by omega)), up_eq, ut_s, l1, l2]
    exact dq_ring (ut z k) (ut f k) (un r) (un d) _ _ (un (f (6 - k))) (un r * 2 ^ 32 + un (f (6 - k))) h4 (by have := Nat.div_add_mod (un r * 2 ^ 32 + un (f (6 - k))) (un d); rw [Nat.mul_comm] at this; exact this.symm) rfl
theorem dvw_ok {f : Nat → Int64} {d : Int64} (hf : okw f 7) (hd : 0 < un d) (hd2 : un d < 2 ^ 47) : okw (wr_dv f d) 7 ∧ uv (wr_dv f d) 7 = uv f 7 / un d := by
  unfold wr_dv
  rw [ir_eq]
  unfold wd_div
  have ed : d.toInt = un d := un_toInt (by omega)
  rw [if_neg (by
    rintro (q | q)
    · have := (i64_le _ _).mp q; rw [ed, show (0 : Int64).toInt = 0 from rfl] at this; omega
    · have := (i64_le _ _).mp q; rw [ed, show (140737488355328 : Int64).toInt = 140737488355328 from rfl] at this; omega)]
  obtain ⟨h1, -, h3, h4⟩ := dvw_inv hf hd hd2 7 (Nat.le_refl _)
  refine ⟨h1, ?_⟩
  rw [ut_uv, ut_uv] at h4
  exact (dm_of h4.symm h3).1.symm
