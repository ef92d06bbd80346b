/-! the class's wide numbers over Nat: add, subtract, negate, whole, isZero -/
theorem ad_ring (A F G c P q m s x y : Nat) (h : A + c * P = F + G) (d : s = x + y + c) (e : q * 4294967296 + m = s) : A + m * P + q * (P * 4294967296) = F + x * P + (G + y * P) := by
  have h1 : q * (P * 4294967296) + m * P = s * P := by rw [← e]; grind
  have h2 : s * P = x * P + y * P + c * P := by rw [d]; grind
  omega
theorem addw_inv {f g : Nat → Int64} (hf : okw f 7) (hg : okw g 7) : ∀ i, i ≤ 7 →
    okw (wd_add f g i).1 7 ∧ (∀ j, i ≤ j → (wd_add f g i).1 j = f j) ∧ un (wd_add f g i).2 ≤ 1 ∧ uv (wd_add f g i).1 i + un (wd_add f g i).2 * 2 ^ (32 * i) = uv f i + uv g i
  | 0, _ => ⟨hf, fun _ _ => rfl, by show un 0 ≤ _; decide, by show uv f 0 + un 0 * _ = uv f 0 + uv g 0; rw [show un 0 = 0 from rfl, show uv f 0 = 0 from rfl, show uv g 0 = 0 from rfl]⟩
  | i + 1, h => by
    have IH := addw_inv hf hg i (by omega)
    have E : wd_add f g (i + 1) = (vp_updL (wd_add f g i).1 i (((wd_add f g i).1 i + g i + (wd_add f g i).2) &&& 4294967295), pu_us ((wd_add f g i).1 i + g i + (wd_add f g i).2) 32) := rfl
    rw [E]
    generalize wd_add f g i = Z at *
    obtain ⟨z, c⟩ := Z
    obtain ⟨h1, h2, h3, h4⟩ := IH
    dsimp only at h1 h2 h3 h4 ⊢
    have hfi := hf i (by omega)
    have hgi := hg i (by omega)
    rw [h2 i (Nat.le_refl _)]
    have es : un (f i + g i + c) = un (f i) + un (g i) + un c := by rw [un_add, un_add, Nat.mod_eq_of_lt (a := un (f i) + un (g i)) (by omega), Nat.mod_eq_of_lt (by omega)]
    have hu : un ((f i + g i + c) &&& 4294967295) = (un (f i) + un (g i) + un c) % 2 ^ 32 := by rw [un_and32, es]
    have hv : un (pu_us (f i + g i + c) 32) = (un (f i) + un (g i) + un c) / 2 ^ 32 := by rw [un_us32, es]
    refine ⟨okw_up h1 (by rw [hu]; omega), fun j hj => by rw [up_ne _ _ (by omega)]; exact h2 j (by omega), by rw [hv]; omega, ?_⟩
    rw [uv_s, uv_upn i (Nat.le_refl _), up_eq, uv_s, uv_s, hu, hv, p32s]
    exact ad_ring (uv z i) (uv f i) (uv g i) (un c) (2 ^ (32 * i)) _ _ (un (f i) + un (g i) + un c) (un (f i)) (un (g i)) h4 rfl (by omega)
theorem addw_ok {f g : Nat → Int64} (hf : okw f 7) (hg : okw g 7) : okw (wr_add f g) 7 ∧ uv (wr_add f g) 7 = (uv f 7 + uv g 7) % 2 ^ 224 := by
  unfold wr_add
  rw [ir_eq]
  obtain ⟨h1, -, -, h4⟩ := addw_inv hf hg 7 (Nat.le_refl _)
  refine ⟨h1, ?_⟩
  have h5 := uv_lt 7 h1
  rw [← h4, show 32 * 7 = 224 from rfl] at *
  rw [Nat.add_mul_mod_self_right, Nat.mod_eq_of_lt h5]
/-! subtract: the borrow is 0 or all ones -/
theorem un_neg1 : un (-1) = 2 ^ 64 - 1 := by decide
theorem un_sub (x y : Int64) : un (x - y) = (un x + (2 ^ 64 - un y)) % 2 ^ 64 := by
  unfold un
  rw [Int64.toBitVec_sub, BitVec.toNat_sub]
  rw [Nat.add_comm]
theorem ss32 {x : Int64} (h : un x < 2 ^ 63 → un x < 2 ^ 32) (h2 : 2 ^ 63 ≤ un x → 2 ^ 64 - 2 ^ 32 ≤ un x) : pu_ss x 32 = if un x < 2 ^ 63 then 0 else -1 := by
  apply un_inj
  have e : un (pu_ss x 32) = (x.toBitVec.sshiftRight 32).toNat := rfl
  rw [e, BitVec.toNat_sshiftRight]
  have hm : x.toBitVec.msb = decide (2 ^ 63 ≤ un x) := by rw [BitVec.msb_eq_decide]; rfl
  by_cases q : un x < 2 ^ 63
  · rw [if_pos q, hm, show decide (2 ^ 63 ≤ un x) = false from decide_eq_false (by omega)]
    show (x.toBitVec.toNat >>> 32) = _
    rw [Nat.shiftRight_eq_div_pow]
    have := h q
    unfold un at this
    rw [show un 0 = 0 from rfl]
    omega
  · rw [if_neg q, hm, show decide (2 ^ 63 ≤ un x) = true from decide_eq_true (by omega), un_neg1]
    show 2 ^ 64 - 1 - (2 ^ 64 - 1 - x.toBitVec.toNat) >>> 32 = _
    rw [Nat.shiftRight_eq_div_pow]
    have := h2 (by omega)
    have := un_lt x
    unfold un at *
    omega
theorem sb_ring (A F G c P m x y b : Nat) (h : A + G = F + c * P) (e : m + y + c = x + b * 4294967296) : A + m * P + (G + y * P) = F + x * P + b * (P * 4294967296) := by
  have h1 : m * P + y * P + c * P = x * P + b * (P * 4294967296) := by
    have : (m + y + c) * P = (x + b * 4294967296) * P := by rw [e]
    grind
  omega
theorem subw_inv {f g : Nat → Int64} (hf : okw f 7) (hg : okw g 7) : ∀ i, i ≤ 7 →
    okw (wd_sub f g i).1 7 ∧ (∀ j, i ≤ j → (wd_sub f g i).1 j = f j) ∧ ∃ b : Nat, b ≤ 1 ∧ (wd_sub f g i).2 = (if b = 0 then 0 else -1) ∧ uv (wd_sub f g i).1 i + uv g i = uv f i + b * 2 ^ (32 * i)
  | 0, _ => ⟨hf, fun _ _ => rfl, 0, by decide, rfl, by show uv f 0 + uv g 0 = uv f 0 + _; rw [show uv g 0 = 0 from rfl]⟩
  | i + 1, h => by
    have IH := subw_inv hf hg i (by omega)
    have E : wd_sub f g (i + 1) = (vp_updL (wd_sub f g i).1 i (((wd_sub f g i).1 i - g i + (wd_sub f g i).2) &&& 4294967295), pu_ss ((wd_sub f g i).1 i - g i + (wd_sub f g i).2) 32) := rfl
    rw [E]
    generalize wd_sub f g i = Z at *
    obtain ⟨z, c⟩ := Z
    obtain ⟨h1, h2, b, hb, hc, h4⟩ := IH
    dsimp only at h1 h2 hc h4 ⊢
    have hfi := hf i (by omega)
    have hgi := hg i (by omega)
    rw [h2 i (Nat.le_refl _)]
    have ec : un c = if b = 0 then 0 else 2 ^ 64 - 1 := by
      rw [hc]
      by_cases q : b = 0
      · rw [if_pos q, if_pos q]; rfl
      · rw [if_neg q, if_neg q]; exact un_neg1
    have es : un (f i - g i + c) = if un (g i) + b ≤ un (f i) then un (f i) - (un (g i) + b) else 2 ^ 64 + un (f i) - (un (g i) + b) := by
      rw [un_add, un_sub, ec]
      by_cases q : b = 0
      · subst q
        rw [if_pos rfl]
        by_cases r : un (g i) + 0 ≤ un (f i)
        · rw [if_pos r]; omega
        · rw [if_neg r]; omega
      · have : b = 1 := by omega
        subst this
        rw [if_neg (by decide)]
        by_cases r : un (g i) + 1 ≤ un (f i)
        · rw [if_pos r]; omega
        · rw [if_neg r]; omega
    by_cases r : un (g i) + b ≤ un (f i)
    · rw [if_pos r] at es
      have hs : pu_ss (f i - g i + c) 32 = 0 := by rw [ss32 (by omega) (by omega), if_pos (by omega)]
      refine ⟨okw_up h1 (by rw [un_and32]; omega), fun j hj => by rw [up_ne _ _ (by omega)]; exact h2 j (by omega), 0, by decide, by rw [hs]; rfl, ?_⟩
      rw [uv_s, uv_upn i (Nat.le_refl _), up_eq, uv_s, uv_s, un_and32, es, p32s]
      exact sb_ring (uv z i) (uv f i) (uv g i) b (2 ^ (32 * i)) _ (un (f i)) (un (g i)) 0 h4 (by omega)
    · rw [if_neg r] at es
      have hs : pu_ss (f i - g i + c) 32 = -1 := by rw [ss32 (by omega) (by omega), if_neg (by omega)]
      refine ⟨okw_up h1 (by rw [un_and32]; omega), fun j hj => by rw [up_ne _ _ (by omega)]; exact h2 j (by omega), 1, by decide, by rw [hs]; rfl, ?_⟩
      rw [uv_s, uv_upn i (Nat.le_refl _), up_eq, uv_s, uv_s, un_and32, es, p32s]
      exact sb_ring (uv z i) (uv f i) (uv g i) b (2 ^ (32 * i)) _ (un (f i)) (un (g i)) 1 h4 (by omega)
theorem subw_ok {f g : Nat → Int64} (hf : okw f 7) (hg : okw g 7) : okw (wr_sub f g) 7 ∧ uv (wr_sub f g) 7 = (uv f 7 + 2 ^ 224 - uv g 7) % 2 ^ 224 := by
  unfold wr_sub
  rw [ir_eq]
  obtain ⟨h1, -, b, hb, -, h4⟩ := subw_inv hf hg 7 (Nat.le_refl _)
  refine ⟨h1, ?_⟩
  have h5 := uv_lt 7 h1
  have h6 := uv_lt 7 hg
  have h7 := uv_lt 7 hf
  rw [show 32 * 7 = 224 from rfl] at *
  generalize uv (wd_sub f g 7).1 7 = x at *
  generalize uv f 7 = y at *
  generalize uv g 7 = z at *
  rcases (show b = 0 ∨ b = 1 by omega) with e | e
  · subst e; rw [show y + 2 ^ 224 - z = x + 2 ^ 224 by omega, Nat.add_mod_right, Nat.mod_eq_of_lt h5]
  · subst e; rw [show y + 2 ^ 224 - z = x by omega, Nat.mod_eq_of_lt h5]
/-! whole, isZero -/
theorem whw_ok {f : Nat → Int64} (hf : okw f 7) : un (wr_wh f) = uv f 7 / 2 ^ 160 := by
  unfold wr_wh
  rw [ir_eq]
  have e1 : un (wd_wh f) = (un (f 6) <<< 32) % 2 ^ 64 ||| un (f 5) := by
    have e2 : un (wd_wh f) = ((f 6).toBitVec <<< 32 ||| (f 5).toBitVec).toNat := rfl
    rw [e2, BitVec.toNat_or, BitVec.toNat_shiftLeft]; rfl
  have h6 := hf 6 (by decide)
  have h5 := hf 5 (by decide)
  rw [e1, Nat.mod_eq_of_lt (by rw [Nat.shiftLeft_eq]; omega), ← Nat.shiftLeft_add_eq_or_of_lt h5, Nat.shiftLeft_eq]
  have hl := uv_lt 5 (fun k hk => hf k (by omega))
  have e7 : uv f 7 = uv f 5 + (un (f 5) + un (f 6) * 2 ^ 32) * 2 ^ 160 := by
    rw [uv_s, uv_s]; omega
  rw [e7, Nat.add_mul_div_right _ _ (by decide), Nat.div_eq_of_lt hl]; omega
theorem zw_ok {f : Nat → Int64} (hf : okw f 7) : ¬ wr_z f = 0 ↔ uv f 7 = 0 := by
  unfold wr_z
  rw [ir_eq]
  have hz : ∀ x : Int64, x = 0 ↔ un x = 0 := fun x => ⟨fun h => by rw [h]; rfl, fun h => un_inj h⟩
  have e7 : uv f 7 = 0 ↔ (f 0 = 0 ∧ f 1 = 0 ∧ f 2 = 0 ∧ f 3 = 0 ∧ f 4 = 0 ∧ f 5 = 0 ∧ f 6 = 0) := by
    simp only [uv_s, show uv f 0 = 0 from rfl, hz]
    omega
  unfold wd_z
  rw [e7]
  by_cases q : f 0 = 0 ∧ f 1 = 0 ∧ f 2 = 0 ∧ f 3 = 0 ∧ f 4 = 0 ∧ f 5 = 0 ∧ f 6 = 0
  · rw [if_pos q]; exact ⟨fun _ => q, fun _ => by decide⟩
  · rw [if_neg q]; exact ⟨fun h => absurd rfl h, fun h => absurd h q⟩
