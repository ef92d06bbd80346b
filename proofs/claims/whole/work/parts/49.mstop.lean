/-! the reference's series stop -/
theorem st_half {t : Nat → Int} {N : Nat} (h0 : ∀ n, n ≤ N → 0 ≤ t n) (hs : ∀ n, n < N → 2 * t (n + 1) ≤ t n) : ∀ n, n ≤ N → t n * 2 ^ n ≤ t 0
  | 0, _ => by simp
  | n + 1, h => by
    have h1 := st_half h0 hs n (by omega)
    have hp2 : (0 : Int) < 2 ^ n := Int.pow_pos (by decide)
    have h2 := Int.mul_le_mul_of_nonneg_right (hs n (by omega)) (Int.le_of_lt hp2)
    rw [Int.pow_succ]
    have : t (n + 1) * (2 ^ n * 2) = 2 * t (n + 1) * 2 ^ n := by grind
    omega
theorem st_zero {t : Nat → Int} (h0 : ∀ n, n ≤ 700 → 0 ≤ t n) (hs : ∀ n, n < 700 → 2 * t (n + 1) ≤ t n) (hb : t 0 < 1000000 ^ 24) : t 700 = 0 := by
  have h := st_half h0 hs 700 (Nat.le_refl _)
  have h1 := h0 700 (Nat.le_refl _)
  generalize t 700 = a at *
  generalize t 0 = b at *
  have hp : (1000000 : Int) ^ 24 ≤ 2 ^ 700 := by decide +kernel
  have hq : (0 : Int) ≤ 2 ^ 700 := by decide +kernel
  generalize (1000000 : Int) ^ 24 = P at *
  generalize (2 : Int) ^ 700 = Q at *
  by_cases e : a = 0
  · exact e
  · have := Int.mul_le_mul_of_nonneg_right (show 1 ≤ a by omega) hq
    omega
theorem stop_ok (z : Nat → Int32) : ∀ n i N, ¬ z N = 0 → i ≤ N → N ≤ i + n → (∀ j, i ≤ j → j < rk_stop z n i → z j = 0) ∧ ¬ z (rk_stop z n i) = 0 ∧ rk_stop z n i ≤ N
  | 0, i, N, h, h1, h2 => by
    have e : i = N := by omega
    subst e
    exact ⟨fun j a b => by have : j < i := b; omega, h, Nat.le_refl _⟩
  | n + 1, i, N, h, h1, h2 => by
    by_cases e : z i = 0
    · have er : rk_stop z (n + 1) i = rk_stop z n (i + 1) := if_pos e
      rw [er]
      have hne : i ≠ N := fun q => h (q ▸ e)
      obtain ⟨a, b, c⟩ := stop_ok z n (i + 1) N h (by omega) (by omega)
      refine ⟨fun j hj hl => ?_, b, c⟩
      by_cases q : j = i
      · rw [q]; exact e
      · exact a j (by omega) hl
    · have er : rk_stop z (n + 1) i = i := if_neg e
      rw [er]
      exact ⟨fun j a b => absurd b (by omega), e, h1⟩
/-- the first step at which a series' term is nothing -/
def sk (s : Nat → (Nat → Int64)) : Nat := ir_ 0 (rk_stop (fun i => md_no 1 (s i) 24) 900 0)
theorem sk_ok {s : Nat → (Nat → Int64)} {N : Nat} (hN : N ≤ 900) (h : ¬ md_no 1 (s N) 24 = 0) : sk s < 1000 ∧ (∀ i, i < sk s → md_no 1 (s i) 24 = 0) ∧ ¬ md_no 1 (s (sk s)) 24 = 0 := by
  have := stop_ok (fun i => md_no 1 (s i) 24) 900 0 N h (Nat.zero_le _) (by omega)
  unfold sk
  rw [ir_eq]
  obtain ⟨a, b, c⟩ := this
  exact ⟨by omega, fun i hi => a i (Nat.zero_le _) hi, b⟩
theorem dv_half {T s B : Int} (hT : 0 ≤ T) (hB : 0 < B) (hs : 2 * s ≤ B) : 2 * (T * s / B) ≤ T := by
  have h1 := Int.ediv_mul_le (T * s) (b := B) (by omega)
  have h2 := Int.mul_le_mul_of_nonneg_left hs hT
  have h3 : T * (2 * s) = 2 * (T * s) := by grind
  generalize T * s / B = d at *
  have h4 : 2 * d * B ≤ T * B := by
    have : 2 * d * B = 2 * (d * B) := by grind
    omega
  exact Int.le_of_mul_le_mul_right h4 hB
theorem dv_le {d q : Int} (hd : 0 ≤ d) (hq : 0 < q) : 0 ≤ d / q ∧ d / q ≤ d := by
  refine ⟨Int.ediv_nonneg hd (by omega), ?_⟩
  have h1 := Int.ediv_mul_le d (b := q) (by omega)
  have h2 := Int.ediv_nonneg hd (show 0 ≤ q by omega)
  have h3 := Int.mul_le_mul_of_nonneg_left (show 1 ≤ q by omega) h2
  omega
theorem nI_L {n : Nat} (h : n < 2 ^ 31) : (nI n).toInt64.toInt = n := by rw [nI_toL h, nL_toInt (by omega)]
theorem vv_nn {r : Nat} {g : Nat → Int64} (o : ok r g) : 0 ≤ vv r g 24 := (vv_bd o 24 (Nat.le_refl _)).1
theorem vv_tp {r : Nat} {g : Nat → Int64} (o : ok r g) : vv r g 24 < 1000000 ^ 24 := (vv_bd o 24 (Nat.le_refl _)).2
theorem mul_room {f : Nat} {a b : Int} (ha : 0 ≤ a) (ha2 : a < 1000000 ^ 24) (hb : b ≤ 1000000 ^ f) (hb0 : 0 ≤ b) : a * b < 1000000 ^ (f + 24) := by
  rw [Nat.add_comm, Int.pow_add]
  have h1 := Int.mul_le_mul_of_nonneg_left hb ha
  have h2 := Int.mul_lt_mul_of_pos_right ha2 (pw_pos f)
  omega
/-! powerOf -/
theorem pw_as_ok {b q : Int32} {g : Nat → Int64} (o0 : ok 0 g) (o1 : ok 1 g) : ok 0 (pw_as b q g) ∧ fr 0 g (pw_as b q g) := by
  have ha := add_ok (r := 0) (a := 1) (by decide) o0 o1
  have hl := les_ok (r := 0) (a := 1) (by decide) o0 o1
  unfold pw_as
  by_cases e : b = 0
  · rw [if_pos e]; exact ⟨ha.1, ha.2.1⟩
  · rw [if_neg e]
    by_cases e2 : q - q / 2 * 2 = 1
    · rw [if_pos e2]; exact ⟨hl.1, hl.2.1⟩
    · rw [if_neg e2]; exact ⟨ha.1, ha.2.1⟩
theorem pw_inv {f : Nat} {b : Int32} {g p : Nat → Int64} (hf : f ≤ 23) (o8 : ok 8 g) (hX : vv 8 g 24 ≤ 32 * 1000000 ^ f) : ∀ n, n ≤ 800 →
    (ok 0 (pw_it f b g p n).1 ∧ ok 1 (pw_it f b g p n).1 ∧ ok 2 (pw_it f b g p n).1 ∧ vv 2 (pw_it f b g p n).1 24 = vv 8 g 24 / 64)
  | 0, _ => by
    have c := cp_ok (r := 2) (a := 8) (by decide) o8
    have d := by_ok (r := 2) (q := 64) (g := mr_cp 2 8 g) c.1 (by decide) (by decide)
    have pf : (1 : Int64).toInt * 1000000 ^ f < 1000000 ^ 24 := by
      have : (1000000 : Int) ^ 24 = 1000000 ^ (24 - f) * 1000000 ^ f := by rw [← Int.pow_add]; congr 1; omega
      rw [this, show (1 : Int64).toInt = 1 from rfl]
      have h1 : (1000000 : Int) ^ (24 - f) = 1000000 ^ (23 - f) * 1000000 := by rw [← Int.pow_succ]; congr 1; omega
      have h2 := pw_pos (23 - f)
      have h3 := Int.mul_lt_mul_of_pos_right (show (1 : Int) < 1000000 ^ (24 - f) by omega) (pw_pos f)
      exact h3
    have w0 := wh_ok (f := f) (r := 0) (v := 1) (g := mr_by 2 64 (mr_cp 2 8 g)) (by omega) (by decide) pf
    have w1 := wh_ok (f := f) (r := 1) (v := 1) (g := mr_wh f 0 1 (mr_by 2 64 (mr_cp 2 8 g))) (by omega) (by decide) pf
    refine ⟨fr_ok w1.2.1 (by decide) w0.1, w1.1, fr_ok w1.2.1 (by decide) (fr_ok w0.2.1 (by decide) d.1), ?_⟩
    show vv 2 (mr_wh f 1 1 (mr_wh f 0 1 (mr_by 2 64 (mr_cp 2 8 g)))) 24 = _
    rw [fr_vv w1.2.1 (by decide), fr_vv w0.2.1 (by decide), d.2.2, c.2.2]; rfl
  | n + 1, h => by
    obtain ⟨o0, o1, o2, e2⟩ := pw_inv (b := b) (p := p) hf o8 hX n (by omega)
    have hs : vv 2 (pw_it f b g p n).1 24 ≤ 1000000 ^ f := by
      have := pw_pos f
      rw [e2]; generalize (1000000 : Int) ^ f = B at *; omega
    have m := mul_ok (f := f) (r := 1) (a := 1) (b := 2) (p := (pw_it f b g p n).2) (by omega) o1 o2 (mul_room (vv_nn o1) (vv_tp o1) hs (vv_nn o2))
    have hq : (nI (n + 1)).toInt64.toInt = ((n + 1 : Nat) : Int) := nI_L (by omega)
    have d := by_ok (r := 1) (q := (nI (n + 1)).toInt64) m.1 (by omega) (by omega)
    have o0' := fr_ok d.2.1 (s := 0) (by decide) (fr_ok m.2.1 (by decide) o0)
    have a := pw_as_ok (b := b) (q := nI (n + 1)) o0' d.1
    refine ⟨a.1, fr_ok a.2 (by decide) d.1, fr_ok a.2 (by decide) (fr_ok d.2.1 (by decide) (fr_ok m.2.1 (by decide) o2)), ?_⟩
    show vv 2 (pw_as b (nI (n + 1)) (mr_by 1 (nI (n + 1)).toInt64 (mr_mul f 1 1 2 (pw_it f b g p n).1 (pw_it f b g p n).2))) 24 = _
    rw [fr_vv a.2 (by decide), fr_vv d.2.1 (by decide), fr_vv m.2.1 (by decide), e2]
theorem pw_T {f : Nat} {b : Int32} {g p : Nat → Int64} (hf : f ≤ 23) (o8 : ok 8 g) (hX : vv 8 g 24 ≤ 32 * 1000000 ^ f) (n : Nat) (h : n < 800) :
    vv 1 (pw_it f b g p (n + 1)).1 24 = vv 1 (pw_it f b g p n).1 24 * (vv 8 g 24 / 64) / 1000000 ^ f / ((n + 1 : Nat) : Int) := by
  obtain ⟨o0, o1, o2, e2⟩ := pw_inv (b := b) (p := p) hf o8 hX n (by omega)
  have hs : vv 2 (pw_it f b g p n).1 24 ≤ 1000000 ^ f := by
    have := pw_pos f
    rw [e2]; generalize (1000000 : Int) ^ f = B at *; omega
  have m := mul_ok (f := f) (r := 1) (a := 1) (b := 2) (p := (pw_it f b g p n).2) (by omega) o1 o2 (mul_room (vv_nn o1) (vv_tp o1) hs (vv_nn o2))
  have hq : (nI (n + 1)).toInt64.toInt = ((n + 1 : Nat) : Int) := nI_L (by omega)
  have d := by_ok (r := 1) (q := (nI (n + 1)).toInt64) m.1 (by omega) (by omega)
  have o0' := fr_ok d.2.1 (s := 0) (by decide) (fr_ok m.2.1 (by decide) o0)
  have a := pw_as_ok (b := b) (q := nI (n + 1)) o0' d.1
  show vv 1 (pw_as b (nI (n + 1)) (mr_by 1 (nI (n + 1)).toInt64 (mr_mul f 1 1 2 (pw_it f b g p n).1 (pw_it f b g p n).2))) 24 = _
  rw [fr_vv a.2 (by decide), d.2.2, m.2.2, e2, hq]
theorem pw_stop {f : Nat} {b : Int32} {g p : Nat → Int64} (hf : f ≤ 23) (o8 : ok 8 g) (hX : vv 8 g 24 ≤ 32 * 1000000 ^ f) : ¬ md_no 1 (pw_it f b g p 700).1 24 = 0 := by
  have hi := fun n h => pw_inv (b := b) (p := p) hf o8 hX n h
  refine (no_ok (hi 700 (by decide)).2.1).mpr (st_zero (t := fun n => vv 1 (pw_it f b g p n).1 24) (fun n hn => vv_nn (hi n (by omega)).2.1) (fun n hn => ?_) (vv_tp (hi 0 (by omega)).2.1))
  show 2 * vv 1 (pw_it f b g p (n + 1)).1 24 ≤ vv 1 (pw_it f b g p n).1 24
  rw [pw_T hf o8 hX n (by omega)]
  have hT := vv_nn (hi n (by omega)).2.1
  have hx := vv_nn o8
  have hB := pw_pos f
  generalize vv 1 (pw_it f b g p n).1 24 = T at *
  generalize vv 8 g 24 = X at *
  generalize (1000000 : Int) ^ f = B at *
  have h1 := dv_half (T := T) (s := X / 64) (B := B) hT hB (by omega)
  have h2 := Int.ediv_nonneg (Int.mul_nonneg hT (show 0 ≤ X / 64 by omega)) (Int.le_of_lt hB)
  have h3 := dv_le (d := T * (X / 64) / B) (q := ((n + 1 : Nat) : Int)) h2 (by omega)
  omega
