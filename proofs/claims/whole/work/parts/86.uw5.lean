/-! the class's product with a point: a few units too small at most; rows of limbs -/
theorem ug_uv (g : Nat → Int64) (j0 : Nat) : ∀ k, uv g (j0 + k) = uv g j0 + ug g j0 k
  | 0 => rfl
  | k + 1 => by rw [← Nat.add_assoc, uv_s, ug_uv g j0 k, ug_s]; omega
theorem up_fin {w x y z m1 m2 m3 : Nat} (a : w ≤ z) (b : z ≤ w + m3) (c : x ≤ m2) (d : m1 = m2 + m3) : w + y ≤ z + (x + y) ∧ z + (x + y) ≤ w + y + m1 := by omega
theorem up_err {f g : Nat → Int64} (hf : okw f 7) (hg : okw g 7) : ∀ i, i ≤ 7 → up_s f g 5 i ≤ uv f i * uv g 7 ∧ uv f i * uv g 7 ≤ up_s f g 5 i + (min i 4) * 2 ^ 160
  | 0, _ => by
    show 0 ≤ 0 * _ ∧ 0 * _ ≤ 0 + _
    rw [Nat.zero_mul]; exact ⟨Nat.le_refl _, Nat.zero_le _⟩
  | i + 1, h => by
    obtain ⟨a, b⟩ := up_err hf hg i (by omega)
    have E : up_s f g 5 (i + 1) = up_s f g 5 i + un (f i) * 2 ^ (32 * i) * ug g (5 - 1 - i) (7 - (5 - 1 - i)) := rfl
    have hg7 := ug_uv g (5 - 1 - i) (7 - (5 - 1 - i))
    rw [show 5 - 1 - i + (7 - (5 - 1 - i)) = 7 by omega] at hg7
    have hfi := hf i (by omega)
    have hl := uv_lt (5 - 1 - i) (fun j hj => hg j (by omega))
    have e1 : uv f (i + 1) * uv g 7 = uv f i * uv g 7 + un (f i) * 2 ^ (32 * i) * uv g 7 := by rw [uv_s, Nat.add_mul]
    have e2 : un (f i) * 2 ^ (32 * i) * uv g 7 = un (f i) * 2 ^ (32 * i) * uv g (5 - 1 - i) + un (f i) * 2 ^ (32 * i) * ug g (5 - 1 - i) (7 - (5 - 1 - i)) := by rw [hg7, Nat.mul_add]
    rw [E, e1, e2]
    have e3 : un (f i) * 2 ^ (32 * i) * uv g (5 - 1 - i) ≤ (min (i + 1) 4 - min i 4) * 2 ^ 160 := by
      by_cases hi : i < 4
      · rw [show min (i + 1) 4 - min i 4 = 1 by omega, Nat.one_mul]
        have h1 : un (f i) * 2 ^ (32 * i) * uv g (5 - 1 - i) ≤ 2 ^ 32 * 2 ^ (32 * i) * 2 ^ (32 * (5 - 1 - i)) := Nat.mul_le_mul (Nat.mul_le_mul_right _ (by omega)) (by omega)
        rw [← Nat.pow_add, ← Nat.pow_add, show 32 + 32 * i + 32 * (5 - 1 - i) = 160 by omega] at h1
        exact h1
      · rw [show 5 - 1 - i = 0 by omega, show uv g 0 = 0 from rfl, Nat.mul_zero]; exact Nat.zero_le _
    exact up_fin a b e3 (by rw [← Nat.add_mul]; congr 1; omega)
/-- multiply: at most 4 units too small -/
theorem mulF_ok {f g p : Nat → Int64} (hf : okw f 7) (hg : okw g 7) (hb : uv f 7 * uv g 7 < 2 ^ 384) : okw (wr_mul 5 f g p) 7 ∧ uv (wr_mul 5 f g p) 7 ≤ uv f 7 * uv g 7 / 2 ^ 160 ∧ uv f 7 * uv g 7 / 2 ^ 160 ≤ uv (wr_mul 5 f g p) 7 + 4 := by
  obtain ⟨a, b⟩ := mul_w (p := p) hf hg (dr := 5) (by decide)
  obtain ⟨c, d⟩ := up_err hf hg 7 (Nat.le_refl _)
  rw [show 32 * 5 = 160 from rfl] at b
  rw [show min 7 4 = 4 from rfl] at d
  generalize uv f 7 * uv g 7 = z at *
  generalize up_s f g 5 7 = w at *
  have h1 : w / 2 ^ 160 < 2 ^ 224 := Nat.div_lt_of_lt_mul (by rw [← Nat.pow_add]; omega)
  rw [Nat.mod_eq_of_lt h1] at b
  rw [b]
  refine ⟨a, Nat.div_le_div_right c, ?_⟩
  have h2 : z / 2 ^ 160 ≤ (w + 4 * 2 ^ 160) / 2 ^ 160 := Nat.div_le_div_right d
  rw [Nat.add_mul_div_right _ _ (by decide)] at h2
  exact h2
theorem cpw_ok {f g : Nat → Int64} (hg : okw g 7) : okw (wr_cp f g) 7 ∧ uv (wr_cp f g) 7 = uv g 7 := by
  unfold wr_cp
  rw [ir_eq]
  have e : ∀ j, j < 7 → wd_cp f g 7 j = g j := fun j hj => by unfold wd_cp; exact if_pos hj
  exact ⟨fun j hj => by rw [e j hj]; exact hg j hj, uv_cong 7 e⟩
theorem ratw_ok {f : Nat → Int64} {x d : Int64} (hd : 0 < un d) (hd2 : un d < 2 ^ 47) : okw (wr_rat f x d) 7 ∧ uv (wr_rat f x d) 7 = un x * 2 ^ 160 / un d := by
  have l := load_ok (f := f) (x := x)
  have e : wr_rat f x d = wr_dv (wr_load f x) d := by unfold wr_rat wr_dv wr_load; rw [ir_eq, ir_eq, ir_eq]
  rw [e]
  have d9 := dvw_ok l.1 hd hd2
  exact ⟨d9.1, by rw [d9.2, l.2]⟩
