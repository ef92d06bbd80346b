/-! waves: the reference's quarter -/
theorem b_11_17 {f : Nat} (h : f = 11 ∨ f = 17) : ∃ c : Int, (1000000 : Int) ^ f = 1000000 * c := by
  rcases h with h | h <;> subst h
  · exact ⟨1000000 ^ 10, by decide⟩
  · exact ⟨1000000 ^ 16, by decide⟩
def pir (f : Nat) : Rat := (pie f : Rat) / (((1000000 : Int) ^ f : Int) : Rat)
theorem pir_ok {f : Nat} (h : f = 11 ∨ f = 17) : nb (cc (pir f) + 1) (1 / ((2 ^ 200 : Nat) : Rat)) ∧ nb (ss (pir f)) (1 / ((2 ^ 200 : Nat) : Rat)) := by
  have d0 : 0 ≤ pir f := by rcases h with h | h <;> subst h <;> decide +kernel
  have d2 : 2 * pir f ≤ ((90 + 1 : Nat) : Rat) := by rcases h with h | h <;> subst h <;> decide +kernel
  obtain ⟨k1, k2⟩ := cs_cut (d := pir f) (n := 90) d0 (by decide) d2
  have h1 : nb (cR (pir f) 90 + 1) (1 / ((2 ^ 201 : Nat) : Rat)) := by unfold nb; rcases h with h | h <;> subst h <;> decide +kernel
  have h2 : nb (cI (pir f) 90) (1 / ((2 ^ 201 : Nat) : Rat)) := by unfold nb; rcases h with h | h <;> subst h <;> decide +kernel
  have h3 : eT (pir f) 90 + 1 / ((2 ^ 201 : Nat) : Rat) ≤ 1 / ((2 ^ 200 : Nat) : Rat) := by rcases h with h | h <;> subst h <;> decide +kernel
  generalize (1 / ((2 ^ 201 : Nat) : Rat) : Rat) = e8 at h1 h2 h3
  generalize (1 / ((2 ^ 200 : Nat) : Rat) : Rat) = e7 at h3 ⊢
  generalize cc (pir f) = A at k1 ⊢
  generalize ss (pir f) = B at k2 ⊢
  generalize cR (pir f) 90 = C at k1 h1
  generalize cI (pir f) 90 = D at k2 h2
  generalize eT (pir f) 90 = T at k1 k2 h3
  obtain ⟨a1, a2⟩ := k1
  obtain ⟨b1, b2⟩ := k2
  obtain ⟨c1, c2⟩ := h1
  obtain ⟨d1, d2⟩ := h2
  refine ⟨⟨?_, ?_⟩, ⟨?_, ?_⟩⟩ <;> grind
theorem pir_bd {f : Nat} (h : f = 11 ∨ f = 17) : 0 ≤ pir f ∧ pir f ≤ 16/5 ∧ nb (pir f - 2 * hpr) (1 / ((2 ^ 158 : Nat) : Rat)) ∧ t4 ≤ 1 / ((2 ^ 200 : Nat) : Rat) := by
  unfold nb
  rcases h with h | h <;> subst h <;> decide +kernel
/-- the terms and the sum of quarter -/
def qT (B st T0 : Int) (o : Nat) : Nat → Int
  | 0 => T0
  | k + 1 => qT B st T0 o k * st / B / (((2 * k + o + 1) * (2 * k + o + 2) : Nat) : Int)
def qS (B st T0 : Int) (o : Nat) : Nat → Int
  | 0 => T0
  | k + 1 => if k % 2 = 0 then qS B st T0 o k - qT B st T0 o (k + 1) else qS B st T0 o k + qT B st T0 o (k + 1)
def qo (z : Int32) : Nat := if z = 0 then 1 else 0
theorem qo_n (z : Int32) : qu_n z = qo z + 1 := by
  unfold qu_n qo
  split <;> rfl
theorem qu_sg : ∀ k, k < 801 → (((nI (2 + 2 * k) + 0) - (nI (2 + 2 * k) + 0) / 4 * 4 = 2 ↔ k % 2 = 0) ∧ ((nI (1 + 2 * k) + 1) - (nI (1 + 2 * k) + 1) / 4 * 4 = 2 ↔ k % 2 = 0)) := by decide +kernel
theorem qu_sgn (z : Int32) (k : Nat) (hk : k < 801) : ((nI (qu_n z + 2 * k) + qu_b z) - (nI (qu_n z + 2 * k) + qu_b z) / 4 * 4 = 2 ↔ k % 2 = 0) := by
  unfold qu_n qu_b
  by_cases c : z = 0
  · rw [if_pos c, if_pos c]; exact (qu_sg k hk).1
  · rw [if_neg c, if_neg c]; exact (qu_sg k hk).2
theorem qu_val {f : Nat} {z : Int32} {g p : Nat → Int64} (hf : f ≤ 18) (o8 : ok 8 g) (hX : vv 8 g 24 ≤ 2 * 1000000 ^ f) : ∀ n, n ≤ 750 →
    vv 2 (qu_it f z g p n).1 24 = vv 8 g 24 * vv 8 g 24 / 1000000 ^ f ∧ vv 1 (qu_it f z g p n).1 24 = qT (1000000 ^ f) (vv 8 g 24 * vv 8 g 24 / 1000000 ^ f) (if z = 0 then vv 8 g 24 else 1000000 ^ f) (qo z) n ∧ vv 0 (qu_it f z g p n).1 24 = qS (1000000 ^ f) (vv 8 g 24 * vv 8 g 24 / 1000000 ^ f) (if z = 0 then vv 8 g 24 else 1000000 ^ f) (qo z) n % 1000000 ^ 24
  | 0, _ => by
    have X0 := vv_nn o8
    have hB := pw_pos f
    have m := mul_ok (f := f) (r := 2) (a := 8) (b := 8) (p := p) (by omega) o8 o8 (qu_room (by omega) X0 X0 (by generalize vv 8 g 24 = X at *; generalize (1000000 : Int) ^ f = B at *; omega) (by generalize vv 8 g 24 = X at *; generalize (1000000 : Int) ^ f = B at *; omega))
    have w := wh_ok (f := f) (r := 1) (v := 1) (g := mr_mul f 2 8 8 g p) (by omega) (by decide) (wh_room (by omega) (by decide) (by decide))
    have c8 := cp_ok (r := 1) (a := 8) (g := mr_mul f 2 8 8 g p) (by decide) (fr_ok m.2.1 (by decide) o8)
    have E : (qu_it f z g p 0).1 = mr_cp 0 1 (qu_1 f z (mr_mul f 2 8 8 g p)) := rfl
    have q1 : ok 1 (qu_1 f z (mr_mul f 2 8 8 g p)) ∧ fr 1 (mr_mul f 2 8 8 g p) (qu_1 f z (mr_mul f 2 8 8 g p)) ∧ vv 1 (qu_1 f z (mr_mul f 2 8 8 g p)) 24 = if z = 0 then vv 8 g 24 else 1000000 ^ f := by
      unfold qu_1
      by_cases c : z = 0
      · rw [if_pos c, if_pos c]
        exact ⟨c8.1, c8.2.1, by rw [c8.2.2, fr_vv m.2.1 (by decide)]⟩
      · rw [if_neg c, if_neg c]
        exact ⟨w.1, w.2.1, by rw [w.2.2, show (1 : Int64).toInt = 1 from rfl, Int.one_mul]⟩
    have c0 := cp_ok (r := 0) (a := 1) (g := qu_1 f z (mr_mul f 2 8 8 g p)) (by decide) q1.1
    rw [E]
    refine ⟨by rw [fr_vv c0.2.1 (by decide), fr_vv q1.2.1 (by decide), m.2.2], by rw [fr_vv c0.2.1 (by decide), q1.2.2]; rfl, ?_⟩
    have l := vv_bd c0.1 24 (Nat.le_refl _)
    have e0 : vv 0 (mr_cp 0 1 (qu_1 f z (mr_mul f 2 8 8 g p))) 24 = if z = 0 then vv 8 g 24 else 1000000 ^ f := by rw [c0.2.2, q1.2.2]
    rw [e0] at l ⊢
    show _ = (if z = 0 then vv 8 g 24 else 1000000 ^ f) % 1000000 ^ 24
    exact (Int.emod_eq_of_lt l.1 l.2).symm
  | n + 1, h => by
    obtain ⟨i1, i2, i3⟩ := qu_val (z := z) (p := p) hf o8 hX n (by omega)
    obtain ⟨⟨o0, o1, o2, b2, b1, -⟩, -⟩ := qu_inv (z := z) (p := p) hf o8 hX n (by omega)
    have hB := pw_pos f
    have m := mul_ok (f := f) (r := 1) (a := 1) (b := 2) (p := (qu_it f z g p n).2) (by omega) o1 o2 (qu_room (by omega) (vv_nn o1) (vv_nn o2) (by
      have := vv_nn o1
      generalize vv 1 (qu_it f z g p n).1 24 = T at *
      generalize (1000000 : Int) ^ f = B at *
      omega) (by
      have := vv_nn o2
      generalize vv 2 (qu_it f z g p n).1 24 = T at *
      generalize (1000000 : Int) ^ f = B at *
      omega))
    have hn2 := qu_n2 z
    have hq := qu_q (n := qu_n z + 2 * n) (by omega)
    have hqb : (((qu_n z + 2 * n) * (qu_n z + 2 * n + 1) : Nat) : Int) ≤ 2000 * 2000 := by
      have : (qu_n z + 2 * n) * (qu_n z + 2 * n + 1) ≤ 2000 * 2000 := Nat.mul_le_mul (by omega) (by omega)
      omega
    have hqp : 0 < (qu_n z + 2 * n) * (qu_n z + 2 * n + 1) := Nat.mul_pos (by omega) (by omega)
    have d := by_ok (r := 1) (q := (nI (qu_n z + 2 * n)).toInt64 * (nI (qu_n z + 2 * n) + 1).toInt64) m.1 (by rw [hq]; omega) (by rw [hq]; omega)
    have o0' := fr_ok d.2.1 (s := 0) (by decide) (fr_ok m.2.1 (by decide) o0)
    have ER : (qu_it f z g p (n + 1)).1 = qu_as (qu_b z) (nI (qu_n z + 2 * n)) (mr_by 1 ((nI (qu_n z + 2 * n)).toInt64 * (nI (qu_n z + 2 * n) + 1).toInt64) (mr_mul f 1 1 2 (qu_it f z g p n).1 (qu_it f z g p n).2)) := rfl
    have eK : (((qu_n z + 2 * n) * (qu_n z + 2 * n + 1) : Nat) : Int) = (((2 * n + qo z + 1) * (2 * n + qo z + 2) : Nat) : Int) := by
      rw [qo_n, show qo z + 1 + 2 * n = 2 * n + qo z + 1 by omega]
    have vT : vv 1 (mr_by 1 ((nI (qu_n z + 2 * n)).toInt64 * (nI (qu_n z + 2 * n) + 1).toInt64) (mr_mul f 1 1 2 (qu_it f z g p n).1 (qu_it f z g p n).2)) 24 = qT (1000000 ^ f) (vv 8 g 24 * vv 8 g 24 / 1000000 ^ f) (if z = 0 then vv 8 g 24 else 1000000 ^ f) (qo z) (n + 1) := by
      rw [d.2.2, m.2.2, hq, eK, i1, i2]; rfl
    have vS : vv 0 (mr_by 1 ((nI (qu_n z + 2 * n)).toInt64 * (nI (qu_n z + 2 * n) + 1).toInt64) (mr_mul f 1 1 2 (qu_it f z g p n).1 (qu_it f z g p n).2)) 24 = qS (1000000 ^ f) (vv 8 g 24 * vv 8 g 24 / 1000000 ^ f) (if z = 0 then vv 8 g 24 else 1000000 ^ f) (qo z) n % 1000000 ^ 24 := by
      rw [fr_vv d.2.1 (by decide), fr_vv m.2.1 (by decide), i3]
    have a := qu_as_ok (z := qu_b z) (q := nI (qu_n z + 2 * n)) o0' d.1
    have lm := les_mod (r := 0) (a := 1) (by decide) o0' d.1
    have am := add_mod (r := 0) (a := 1) (by decide) o0' d.1
    rw [vT, vS] at lm am
    rw [ER]
    refine ⟨by rw [fr_vv a.2 (by decide), fr_vv d.2.1 (by decide), fr_vv m.2.1 (by decide), i1], by rw [fr_vv a.2 (by decide), vT], ?_⟩
    have ES : qS (1000000 ^ f) (vv 8 g 24 * vv 8 g 24 / 1000000 ^ f) (if z = 0 then vv 8 g 24 else 1000000 ^ f) (qo z) (n + 1) = if n % 2 = 0 then qS (1000000 ^ f) (vv 8 g 24 * vv 8 g 24 / 1000000 ^ f) (if z = 0 then vv 8 g 24 else 1000000 ^ f) (qo z) n - qT (1000000 ^ f) (vv 8 g 24 * vv 8 g 24 / 1000000 ^ f) (if z = 0 then vv 8 g 24 else 1000000 ^ f) (qo z) (n + 1) else qS (1000000 ^ f) (vv 8 g 24 * vv 8 g 24 / 1000000 ^ f) (if z = 0 then vv 8 g 24 else 1000000 ^ f) (qo z) n + qT (1000000 ^ f) (vv 8 g 24 * vv 8 g 24 / 1000000 ^ f) (if z = 0 then vv 8 g 24 else 1000000 ^ f) (qo z) (n + 1) := rfl
    rw [ES]
    generalize qS (1000000 ^ f) (vv 8 g 24 * vv 8 g 24 / 1000000 ^ f) (if z = 0 then vv 8 g 24 else 1000000 ^ f) (qo z) n = S at lm am ⊢
    generalize qT (1000000 ^ f) (vv 8 g 24 * vv 8 g 24 / 1000000 ^ f) (if z = 0 then vv 8 g 24 else 1000000 ^ f) (qo z) (n + 1) = T at lm am ⊢
    unfold qu_as
    by_cases c : n % 2 = 0
    · rw [if_pos ((qu_sgn z n (by omega)).mpr c), if_pos c, lm, Int.emod_sub_emod]
    · rw [if_neg (fun q => c ((qu_sgn z n (by omega)).mp q)), if_neg c, am, Int.emod_add_emod]
