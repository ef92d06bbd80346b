/-! the reference's power: squares, and what it says -/
def pwQ (B S : Int) : Nat → Int
  | 0 => S
  | j + 1 => pwQ B S j * pwQ B S j / B
theorem sq_le {Q B K : Int} (h0 : 0 ≤ Q) (hB : 0 < B) (hK : 0 ≤ K) (h : Q ≤ K * B) : Q * Q / B ≤ K * K * B := by
  have h1 := Int.mul_le_mul h h h0 (Int.mul_nonneg hK (Int.le_of_lt hB))
  have h2 := Int.ediv_le_ediv hB h1
  have e : K * B * (K * B) = K * K * B * B := by grind
  rw [e, Int.mul_ediv_cancel _ (by omega)] at h2
  exact h2
theorem sq_room {f : Nat} {Q : Int} (hf : f ≤ 18) (h0 : 0 ≤ Q) (h : Q ≤ 4294967296 * 1000000 ^ f) : Q * Q < 1000000 ^ (f + 24) := by
  have h1 := Int.mul_le_mul h h h0 (Int.mul_nonneg (by decide) (Int.le_of_lt (pw_pos f)))
  have h2 := wh_room (f := f + 2) (v := 1000000000000) (by omega) (by decide) (by decide)
  have e2 : (1000000 : Int) ^ (f + 2) = 1000000 ^ f * 1000000000000 := by rw [Int.pow_add]; rfl
  rw [e2] at h2
  have h3 := Int.mul_lt_mul_of_pos_right h2 (pw_pos f)
  rw [Nat.add_comm, Int.pow_add]
  have hB := pw_pos f
  have e3 : 4294967296 * (1000000 : Int) ^ f * (4294967296 * 1000000 ^ f) = 18446744073709551616 * (1000000 ^ f * 1000000 ^ f) := by generalize (1000000 : Int) ^ f = B; grind
  have e4 : 1000000000000 * ((1000000 : Int) ^ f * 1000000000000) * 1000000 ^ f = 1000000000000000000000000 * (1000000 ^ f * 1000000 ^ f) := by generalize (1000000 : Int) ^ f = B; grind
  have hBB := Int.mul_pos hB hB
  rw [e3] at h1
  rw [e4] at h3
  generalize (1000000 : Int) ^ f * 1000000 ^ f = C at *
  omega
theorem sq_val {f : Nat} {z : S2} (hf : f ≤ 18) (o0 : ok 0 z.1) (h2 : vv 0 z.1 24 ≤ 2 * 1000000 ^ f) : ∀ j, j ≤ 6 → ok 0 (pw_sq f z j).1 ∧ vv 0 (pw_sq f z j).1 24 = pwQ (1000000 ^ f) (vv 0 z.1 24) j ∧ vv 0 (pw_sq f z j).1 24 ≤ 2 ^ (2 ^ j) * 1000000 ^ f
  | 0, _ => ⟨o0, rfl, h2⟩
  | j + 1, h => by
    obtain ⟨a, b, c⟩ := sq_val hf o0 h2 j (by omega)
    have hB := pw_pos f
    have n0 := vv_nn a
    have hc : vv 0 (pw_sq f z j).1 24 ≤ 4294967296 * 1000000 ^ f := by
      refine Int.le_trans c (Int.mul_le_mul_of_nonneg_right ?_ (Int.le_of_lt hB))
      rcases (show j = 0 ∨ j = 1 ∨ j = 2 ∨ j = 3 ∨ j = 4 ∨ j = 5 by omega) with e | e | e | e | e | e <;> subst e <;> decide
    have m := mul_ok (f := f) (r := 0) (a := 0) (b := 0) (p := (pw_sq f z j).2) (by omega) a a (sq_room hf n0 hc)
    have E : (pw_sq f z (j + 1)).1 = mr_mul f 0 0 0 (pw_sq f z j).1 (pw_sq f z j).2 := rfl
    rw [E]
    refine ⟨m.1, by rw [m.2.2, b]; rfl, ?_⟩
    rw [m.2.2]
    have s := sq_le n0 hB (Int.le_of_lt (Int.pow_pos (by decide))) c
    have e : (2 : Int) ^ (2 ^ j) * 2 ^ (2 ^ j) = 2 ^ (2 ^ (j + 1)) := by rw [← Int.pow_add]; congr 1; rw [Nat.pow_succ]; omega
    rw [e] at s
    exact s
/-- e to the X: the sum at the first nought, squared six times -/
theorem po_val {f : Nat} {b : Int32} {g p : Nat → Int64} (hf : f ≤ 18) (o8 : ok 8 g) (hX : vv 8 g 24 ≤ 20 * 1000000 ^ f) :
    ∃ k, k ≤ 700 ∧ pwT (1000000 ^ f) (vv 8 g 24 / 64) k = 0 ∧ ok 0 (po f b g p).1 ∧ vv 0 (po f b g p).1 24 = pwQ (1000000 ^ f) (pwS b (1000000 ^ f) (vv 8 g 24 / 64) k) 6 ∧ vv 0 (po f b g p).1 24 ≤ 2 ^ 64 * 1000000 ^ f := by
  have hB := pw_pos f
  have hs := sk_le (s := fun i => (pw_it f b g p i).1) (N := 700) (by decide) (pw_stop (show f ≤ 23 by omega) o8 (by omega))
  have hn := (po_st (z := b) (p := p) (show f ≤ 20 by omega) o8 (by omega)).2.2
  have E : po f b g p = pw_sq f (pw_it f b g p (sk (fun i => (pw_it f b g p i).1))) 6 := rfl
  rw [E]
  generalize sk (fun i => (pw_it f b g p i).1) = k at *
  obtain ⟨i1, i2, i3, i4⟩ := pw_val (b := b) (p := p) hf o8 hX k (by omega)
  obtain ⟨o0, o1, -, -⟩ := pw_inv (b := b) (p := p) (show f ≤ 23 by omega) o8 (by omega) k (by omega)
  have hT := (no_ok o1).mp hn
  have q := sq_val (z := pw_it f b g p k) hf o0 (by have := vv_nn o1; generalize (1000000 : Int) ^ f = B at *; generalize vv 0 (pw_it f b g p k).1 24 = S at *; generalize vv 1 (pw_it f b g p k).1 24 = T at *; omega) 6 (Nat.le_refl _)
  refine ⟨k, hs, by rw [← i1]; exact hT, q.1, by rw [q.2.1, i2], q.2.2⟩
