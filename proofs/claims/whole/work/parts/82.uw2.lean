/-! the class's product of wide numbers -/
/-- the limbs from j0 on, k of them -/
def ug (g : Nat → Int64) (j0 : Nat) : Nat → Nat
  | 0 => 0
  | k + 1 => ug g j0 k + un (g (j0 + k)) * 2 ^ (32 * (j0 + k))
theorem ug_s (g : Nat → Int64) (j0 k : Nat) : ug g j0 (k + 1) = ug g j0 k + un (g (j0 + k)) * 2 ^ (32 * (j0 + k)) := rfl
theorem ug_0 (g : Nat → Int64) : ∀ k, ug g 0 k = uv g k
  | 0 => rfl
  | k + 1 => by rw [ug_s, uv_s, ug_0 g k, Nat.zero_add]
theorem mp_ring (U c P A D G q m pl s y R : Nat) (h : U + c * P = A + D * G) (d : s = y + pl + c) (e : q * 4294967296 + m = s) (v : R + pl * P = U + m * P) : R + q * (P * 4294967296) = A + (D * G + y * P) := by
  have h1 : q * (P * 4294967296) + m * P = s * P := by rw [← e]; grind
  have h2 : s * P = y * P + pl * P + c * P := by rw [d]; grind
  omega
theorem um_inv {dg : Int64} {g p : Nat → Int64} {i j0 : Nat} (hd : un dg < 2 ^ 32) (hg : okw g 7) (hp : okw p 14) (hi : i < 7) (hj : j0 ≤ 7) : ∀ k, j0 + k ≤ 7 →
    okw (wd_mi dg g i j0 p k).1 14 ∧ (∀ t, (t < i + j0 ∨ i + j0 + k ≤ t) → (wd_mi dg g i j0 p k).1 t = p t) ∧ un (wd_mi dg g i j0 p k).2 < 2 ^ 32 ∧ uv (wd_mi dg g i j0 p k).1 14 + un (wd_mi dg g i j0 p k).2 * 2 ^ (32 * (i + (j0 + k))) = uv p 14 + un dg * 2 ^ (32 * i) * ug g j0 k
  | 0, _ => ⟨hp, fun _ _ => rfl, by show un 0 < _; decide, by show uv p 14 + un 0 * _ = uv p 14 + _ * 0; rw [show un 0 = 0 from rfl]; omega⟩
  | k + 1, h => by
    have IH := um_inv hd hg hp hi hj k (by omega)
    have E : wd_mi dg g i j0 p (k + 1) = (vp_updL (wd_mi dg g i j0 p k).1 (i + (j0 + k)) ((dg * g (j0 + k) + (wd_mi dg g i j0 p k).1 (i + (j0 + k)) + (wd_mi dg g i j0 p k).2) &&& 4294967295), pu_us (dg * g (j0 + k) + (wd_mi dg g i j0 p k).1 (i + (j0 + k)) + (wd_mi dg g i j0 p k).2) 32) := rfl
    rw [E]
    generalize wd_mi dg g i j0 p k = Z at *
    obtain ⟨z, c⟩ := Z
    obtain ⟨h1, h2, h3, h4⟩ := IH
    dsimp only at h1 h2 h3 h4 ⊢
    have hgi := hg (j0 + k) (by omega)
    have hzi := h1 (i + (j0 + k)) (by omega)
    have hm : un dg * un (g (j0 + k)) ≤ (2 ^ 32 - 1) * (2 ^ 32 - 1) := Nat.mul_le_mul (by omega) (by omega)
    have es : un (dg * g (j0 + k) + z (i + (j0 + k)) + c) = un dg * un (g (j0 + k)) + un (z (i + (j0 + k))) + un c := by
      rw [un_add, un_add, un_mul, Nat.mod_eq_of_lt (a := un dg * un (g (j0 + k))) (by omega), Nat.mod_eq_of_lt (a := un dg * un (g (j0 + k)) + un (z (i + (j0 + k)))) (by omega), Nat.mod_eq_of_lt (by omega)]
    have hu : un ((dg * g (j0 + k) + z (i + (j0 + k)) + c) &&& 4294967295) = (un dg * un (g (j0 + k)) + un (z (i + (j0 + k))) + un c) % 2 ^ 32 := by rw [un_and32, es]
    have hv : un (pu_us (dg * g (j0 + k) + z (i + (j0 + k)) + c) 32) = (un dg * un (g (j0 + k)) + un (z (i + (j0 + k))) + un c) / 2 ^ 32 := by rw [un_us32, es]
    refine ⟨okw_up h1 (by rw [hu]; omega), fun t ht => by rw [up_ne _ _ (by omega)]; exact h2 t (by omega), by rw [hv]; omega, ?_⟩
    have up := uv_up (w := z) (i := i + (j0 + k)) (v := (dg * g (j0 + k) + z (i + (j0 + k)) + c) &&& 4294967295) 14 (by omega)
    rw [hu] at up
    rw [hv, ug_s, show i + (j0 + (k + 1)) = i + (j0 + k) + 1 by omega, p32s]
    have e9 : un dg * 2 ^ (32 * i) * (ug g j0 k + un (g (j0 + k)) * 2 ^ (32 * (j0 + k))) = un dg * 2 ^ (32 * i) * ug g j0 k + un dg * un (g (j0 + k)) * 2 ^ (32 * (i + (j0 + k))) := by
      rw [show 32 * (i + (j0 + k)) = 32 * i + 32 * (j0 + k) by omega, Nat.pow_add]
      generalize 2 ^ (32 * i) = P
      generalize 2 ^ (32 * (j0 + k)) = Q
      grind
    rw [e9]
    exact mp_ring (uv z 14) (un c) (2 ^ (32 * (i + (j0 + k)))) (uv p 14) (un dg * 2 ^ (32 * i)) (ug g j0 k) _ _ (un (z (i + (j0 + k)))) (un dg * un (g (j0 + k)) + un (z (i + (j0 + k))) + un c) (un dg * un (g (j0 + k))) _ h4 rfl (by omega) up
theorem uv_fl14 (f : Nat → Int64) : ∀ k, k ≤ 14 → uv (wd_fl f 0 14) k = 0
  | 0, _ => rfl
  | k + 1, h => by
    rw [uv_s, uv_fl14 f k (by omega), show wd_fl f 0 14 k = 0 by unfold wd_fl; exact if_pos (by omega), show un 0 = 0 from rfl]; simp
/-- the rows of the product, i of them -/
def up_s (f g : Nat → Int64) (dr : Nat) : Nat → Nat
  | 0 => 0
  | i + 1 => up_s f g dr i + un (f i) * 2 ^ (32 * i) * ug g (dr - 1 - i) (7 - (dr - 1 - i))
theorem uo_inv {f g p : Nat → Int64} {dr : Nat} (hf : okw f 7) (hg : okw g 7) (hdr : dr ≤ 7) : ∀ i, i ≤ 7 →
    okw (wd_mo f g dr p i) 14 ∧ (∀ t, i + 7 ≤ t → t < 14 → wd_mo f g dr p i t = 0) ∧ uv (wd_mo f g dr p i) 14 = up_s f g dr i
  | 0, _ => ⟨fun k hk => by rw [show wd_mo f g dr p 0 k = 0 by show wd_fl p 0 14 k = 0; unfold wd_fl; exact if_pos hk]; show un 0 < _; decide, fun t _ h => by show wd_fl p 0 14 t = 0; unfold wd_fl; exact if_pos h, uv_fl14 p 14 (Nat.le_refl _)⟩
  | i + 1, h => by
    have IH := uo_inv (p := p) hf hg hdr i (by omega)
    have E : wd_mo f g dr p (i + 1) = if f i = 0 then wd_mo f g dr p i else vp_updL (wd_mi (f i) g i (dr - 1 - i) (wd_mo f g dr p i) (7 - (dr - 1 - i))).1 (i + 7) (wd_mi (f i) g i (dr - 1 - i) (wd_mo f g dr p i) (7 - (dr - 1 - i))).2 := rfl
    have E2 : up_s f g dr (i + 1) = up_s f g dr i + un (f i) * 2 ^ (32 * i) * ug g (dr - 1 - i) (7 - (dr - 1 - i)) := rfl
    rw [E, E2]
    generalize wd_mo f g dr p i = q at *
    obtain ⟨h1, h2, h3⟩ := IH
    by_cases h0 : f i = 0
    · rw [if_pos h0, h0, show un 0 = 0 from rfl]
      exact ⟨h1, fun t a b => h2 t (by omega) b, by rw [h3]; simp⟩
    · rw [if_neg h0]
      have IM := um_inv (dg := f i) (g := g) (p := q) (i := i) (j0 := dr - 1 - i) (hf i (by omega)) hg h1 (by omega) (by omega) (7 - (dr - 1 - i)) (by omega)
      generalize wd_mi (f i) g i (dr - 1 - i) q (7 - (dr - 1 - i)) = Z at *
      obtain ⟨z, c⟩ := Z
      obtain ⟨k1, k2, k3, k4⟩ := IM
      dsimp only at k1 k2 k3 k4 ⊢
      refine ⟨okw_up k1 k3, fun t a b => ?_, ?_⟩
      · rw [up_ne _ _ (by omega), k2 t (Or.inr (by omega))]; exact h2 t (by omega) b
      · have up := uv_up (w := z) (i := i + 7) (v := c) 14 (by omega)
        rw [k2 (i + 7) (Or.inr (by omega)), h2 (i + 7) (Nat.le_refl _) (by omega), show un 0 = 0 from rfl] at up
        rw [show i + (dr - 1 - i + (7 - (dr - 1 - i))) = i + 7 by omega] at k4
        omega
theorem up_full (f g : Nat → Int64) : ∀ i, up_s f g 0 i = uv f i * uv g 7
  | 0 => by show 0 = 0 * _; omega
  | i + 1 => by
    show up_s f g 0 i + un (f i) * 2 ^ (32 * i) * ug g (0 - 1 - i) (7 - (0 - 1 - i)) = _
    rw [up_full f g i, show 0 - 1 - i = 0 by omega, ug_0, uv_s f i, Nat.add_mul]
/-- the words from d on are the quotient -/
theorem uv_drop {w : Nat → Int64} (d : Nat) : ∀ n, okw w (d + n) → uv (fun j => w (j + d)) n = uv w (d + n) / 2 ^ (32 * d)
  | 0, h => by
    have := uv_lt d h
    show 0 = _
    rw [Nat.add_zero, Nat.div_eq_of_lt this]
  | n + 1, h => by
    rw [uv_s, uv_drop d n (fun j hj => h j (by omega)), ← Nat.add_assoc, uv_s, show n + d = d + n by omega, show 32 * (d + n) = 32 * n + 32 * d by omega, Nat.pow_add, ← Nat.mul_assoc, Nat.add_mul_div_right _ _ (Nat.pow_pos (by decide))]
theorem mul_w {f g p : Nat → Int64} {dr : Nat} (hf : okw f 7) (hg : okw g 7) (hdr : dr ≤ 7) : okw (wr_mul dr f g p) 7 ∧ uv (wr_mul dr f g p) 7 = up_s f g dr 7 / 2 ^ (32 * dr) % 2 ^ 224 := by
  unfold wr_mul
  rw [ir_eq]
  obtain ⟨h1, -, h3⟩ := uo_inv (p := p) hf hg hdr 7 (Nat.le_refl _)
  unfold wd_mul
  generalize wd_mo f g dr p 7 = w at *
  have e : ∀ j, j < 7 → wd_cp f (fun j => w (j + dr)) 7 j = w (j + dr) := fun j hj => by unfold wd_cp; exact if_pos hj
  refine ⟨fun j hj => by rw [e j hj]; exact h1 _ (by omega), ?_⟩
  rw [uv_cong 7 (fun j hj => e j hj), uv_drop dr 7 (fun j hj => h1 j (by omega))]
  -- the rest of the words is dropped
  have hs : ∀ n, dr + 7 + n ≤ 14 → uv w (dr + 7 + n) / 2 ^ (32 * dr) % 2 ^ 224 = uv w (dr + 7) / 2 ^ (32 * dr) := fun n => by
    induction n with
    | zero =>
      intro _
      refine Nat.mod_eq_of_lt ?_
      have := uv_lt (dr + 7) (fun j hj => h1 j (by omega))
      rw [show 32 * (dr + 7) = 224 + 32 * dr by omega, Nat.pow_add] at this
      exact Nat.div_lt_of_lt_mul (by rw [Nat.mul_comm]; exact this)
    | succ n ih =>
      intro hn
      rw [← ih (by omega), ← Nat.add_assoc, uv_s, show 32 * (dr + 7 + n) = 224 + 32 * n + 32 * dr by omega, Nat.pow_add, Nat.pow_add, ← Nat.mul_assoc, Nat.add_mul_div_right _ _ (Nat.pow_pos (by decide)), Nat.mul_comm (2 ^ 224), ← Nat.mul_assoc, Nat.add_mul_mod_self_right]
  have := hs (7 - dr) (by omega)
  rw [show dr + 7 + (7 - dr) = 14 by omega, h3] at this
  exact this.symm
theorem mulI_ok {f g p : Nat → Int64} (hf : okw f 7) (hg : okw g 7) : okw (wr_mul 0 f g p) 7 ∧ uv (wr_mul 0 f g p) 7 = uv f 7 * uv g 7 % 2 ^ 224 := by
  obtain ⟨a, b⟩ := mul_w (p := p) hf hg (dr := 0) (by decide)
  refine ⟨a, ?_⟩
  rw [b, up_full]; simp
