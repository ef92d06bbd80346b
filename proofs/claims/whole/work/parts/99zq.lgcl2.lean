/-! the class's logarithm: its factors of two -/
theorem least {p : Nat → Prop} : ∀ m, p m → ∃ N, N ≤ m ∧ p N ∧ ∀ j, j < N → ¬ p j := fun m => by
  induction m using Nat.strongRecOn with
  | _ m ih =>
    intro h
    by_cases c : ∃ j, j < m ∧ p j
    · obtain ⟨j, h1, h2⟩ := c
      obtain ⟨N, a, b, d⟩ := ih j h1 h2
      exact ⟨N, by omega, b, d⟩
    · exact ⟨m, Nat.le_refl _, h, fun j hj hp => c ⟨j, hj, hp⟩⟩
theorem tq_un {x : Int64} {b : Nat} (hb : un x = b) : ∀ i, b * 2 ^ i < 2 ^ 62 → un (tl_q x i) = b * 2 ^ i
  | 0, _ => by rw [Nat.pow_zero, Nat.mul_one]; exact hb
  | i + 1, h => by
    have e : b * 2 ^ (i + 1) = b * 2 ^ i * 2 := by rw [Nat.pow_succ, Nat.mul_assoc]
    rw [e] at h ⊢
    have ih := tq_un hb i (by omega)
    show un (tl_q x i * 2) = _
    have u2 : un (2 : Int64) = 2 := by decide
    rw [un_mul, ih, u2, Nat.mod_eq_of_lt (by omega)]
theorem un_le {x y : Int64} (hx : un x < 2 ^ 63) (hy : un y < 2 ^ 63) : x ≤ y ↔ un x ≤ un y := by
  rw [i64_le, un_toInt hx, un_toInt hy]; omega
theorem un_ltx {x y : Int64} (hx : un x < 2 ^ 63) (hy : un y < 2 ^ 63) : x < y ↔ un x < un y := by
  rw [i64_lt, un_toInt hx, un_toInt hy]; omega
theorem un_c {c : Int64} {k n : Nat} {x : Int64} (hc : un c = k) (hx : un x = n) (h : k * n < 2 ^ 64) : un (c * x) = k * n := by
  rw [un_mul, hc, hx, Nat.mod_eq_of_lt h]
/-- doublings until q is great enough -/
theorem n1_ok {ab be : Int64} {a b : Nat} (ea : un ab = a) (eb : un be = b) (a1 : 1 ≤ a) (a2 : a ≤ 1000000000000) (b1 : 1 ≤ b) (b2 : b ≤ 1000000000000) : tl_n1 ab be ≤ 40 ∧ 5 * a ≤ 7 * (b * 2 ^ tl_n1 ab be) ∧ (tl_n1 ab be = 0 ∨ 7 * (b * 2 ^ tl_n1 ab be) < 10 * a) := by
  obtain ⟨N, n1, n2, n3⟩ := least (p := fun i => 5 * a ≤ 7 * (b * 2 ^ i)) 40 (by
    have : 1 * 2 ^ 40 ≤ b * 2 ^ 40 := Nat.mul_le_mul_right _ b1
    show 5 * a ≤ 7 * (b * 2 ^ 40)
    omega)
  have small : ∀ i, i ≤ N → b * 2 ^ i < 2 ^ 59 := fun i hi => by
    by_cases c : N = 0
    · have : i = 0 := by omega
      subst this
      rw [Nat.pow_zero]; omega
    · have q := n3 (N - 1) (by omega)
      have e : b * 2 ^ N = b * 2 ^ (N - 1) * 2 := by rw [show N = N - 1 + 1 by omega, Nat.pow_succ, Nat.mul_assoc, Nat.add_sub_cancel]
      have m : b * 2 ^ i ≤ b * 2 ^ N := Nat.mul_le_mul_left _ (Nat.pow_le_pow_right (by decide) hi)
      omega
  have u5 : un (5 * ab) = 5 * a := un_c (by decide) ea (by omega)
  have dec : ∀ i, i ≤ N → ((if 5 * ab ≤ 7 * tl_q be i then (1 : Int32) else 0) = 0 ↔ ¬ 5 * a ≤ 7 * (b * 2 ^ i)) := fun i hi => by
    have s := small i hi
    have u7 : un (7 * tl_q be i) = 7 * (b * 2 ^ i) := un_c (by decide) (tq_un eb i (by omega)) (by omega)
    have k : 5 * ab ≤ 7 * tl_q be i ↔ 5 * a ≤ 7 * (b * 2 ^ i) := by
      rw [un_le (by rw [u5]; omega) (by rw [u7]; omega), u5, u7]
    by_cases c : 5 * ab ≤ 7 * tl_q be i
    · rw [if_pos c]
      exact ⟨fun q => absurd q (by decide), fun q => absurd (k.mp c) q⟩
    · rw [if_neg c]
      exact ⟨fun _ q => c (k.mpr q), fun _ => rfl⟩
  have st := stop_ok (fun i => if 5 * ab ≤ 7 * tl_q be i then (1 : Int32) else 0) 64 0 N (fun q => ((dec N (Nat.le_refl _)).mp q) n2) (Nat.zero_le _) (by omega)
  have E : tl_n1 ab be = rk_stop (fun i => if 5 * ab ≤ 7 * tl_q be i then (1 : Int32) else 0) 64 0 := rfl
  rw [← E] at st
  obtain ⟨-, s2, s3⟩ := st
  have p : 5 * a ≤ 7 * (b * 2 ^ tl_n1 ab be) := by
    by_cases c : 5 * a ≤ 7 * (b * 2 ^ tl_n1 ab be)
    · exact c
    · exact absurd ((dec _ s3).mpr c) s2
  refine ⟨by omega, p, ?_⟩
  by_cases c : tl_n1 ab be = 0
  · exact Or.inl c
  · right
    have q := n3 (tl_n1 ab be - 1) (by omega)
    have e : b * 2 ^ tl_n1 ab be = b * 2 ^ (tl_n1 ab be - 1) * 2 := by
      generalize tl_n1 ab be = n at *
      rw [show n = n - 1 + 1 by omega, Nat.pow_succ, Nat.mul_assoc, Nat.add_sub_cancel]
    omega
theorem n2_ok {ab be : Int64} {a b : Nat} (ea : un ab = a) (eb : un be = b) (a1 : 1 ≤ a) (a2 : a ≤ 1000000000000) (b1 : 1 ≤ b) (b2 : b ≤ 2000000000000) : tl_n2 ab be ≤ 41 ∧ 7 * b < 10 * (a * 2 ^ tl_n2 ab be) ∧ (tl_n2 ab be = 0 ∨ 5 * (a * 2 ^ tl_n2 ab be) ≤ 7 * b) := by
  obtain ⟨N, n1, n2, n3⟩ := least (p := fun i => 7 * b < 10 * (a * 2 ^ i)) 41 (by
    have : 1 * 2 ^ 41 ≤ a * 2 ^ 41 := Nat.mul_le_mul_right _ a1
    show 7 * b < 10 * (a * 2 ^ 41)
    omega)
  have small : ∀ i, i ≤ N → a * 2 ^ i < 2 ^ 59 := fun i hi => by
    by_cases c : N = 0
    · have : i = 0 := by omega
      subst this
      rw [Nat.pow_zero]; omega
    · have q := n3 (N - 1) (by omega)
      have e : a * 2 ^ N = a * 2 ^ (N - 1) * 2 := by rw [show N = N - 1 + 1 by omega, Nat.pow_succ, Nat.mul_assoc, Nat.add_sub_cancel]
      have m : a * 2 ^ i ≤ a * 2 ^ N := Nat.mul_le_mul_left _ (Nat.pow_le_pow_right (by decide) hi)
      omega
  have u7 : un (7 * be) = 7 * b := un_c (by decide) eb (by omega)
  have dec : ∀ i, i ≤ N → ((if 7 * be < 10 * tl_q ab i then (1 : Int32) else 0) = 0 ↔ ¬ 7 * b < 10 * (a * 2 ^ i)) := fun i hi => by
    have s := small i hi
    have u10 : un (10 * tl_q ab i) = 10 * (a * 2 ^ i) := un_c (by decide) (tq_un ea i (by omega)) (by omega)
    have k : 7 * be < 10 * tl_q ab i ↔ 7 * b < 10 * (a * 2 ^ i) := by
      rw [un_ltx (by rw [u7]; omega) (by rw [u10]; omega), u7, u10]
    by_cases c : 7 * be < 10 * tl_q ab i
    · rw [if_pos c]
      exact ⟨fun q => absurd q (by decide), fun q => absurd (k.mp c) q⟩
    · rw [if_neg c]
      exact ⟨fun _ q => c (k.mpr q), fun _ => rfl⟩
  have st := stop_ok (fun i => if 7 * be < 10 * tl_q ab i then (1 : Int32) else 0) 64 0 N (fun q => ((dec N (Nat.le_refl _)).mp q) n2) (Nat.zero_le _) (by omega)
  have E : tl_n2 ab be = rk_stop (fun i => if 7 * be < 10 * tl_q ab i then (1 : Int32) else 0) 64 0 := rfl
  rw [← E] at st
  obtain ⟨-, s2, s3⟩ := st
  have p : 7 * b < 10 * (a * 2 ^ tl_n2 ab be) := by
    by_cases c : 7 * b < 10 * (a * 2 ^ tl_n2 ab be)
    · exact c
    · exact absurd ((dec _ s3).mpr c) s2
  refine ⟨by omega, p, ?_⟩
  by_cases c : tl_n2 ab be = 0
  · exact Or.inl c
  · right
    have q := n3 (tl_n2 ab be - 1) (by omega)
    have e : a * 2 ^ tl_n2 ab be = a * 2 ^ (tl_n2 ab be - 1) * 2 := by
      generalize tl_n2 ab be = n at *
      rw [show n = n - 1 + 1 by omega, Nat.pow_succ, Nat.mul_assoc, Nat.add_sub_cancel]
    omega
theorem td_ok {d : Int32} {n : Int} (hd : d.toInt = n) (h0 : 0 ≤ n) (h1 : n ≤ 100) : ∀ i, i ≤ 100 → (tl_d d i).toInt = n - (i : Int)
  | 0, _ => by show d.toInt = _; rw [hd]; simp
  | i + 1, h => by
    have ih := td_ok hd h0 h1 i (by omega)
    show (tl_d d i + (-1)).toInt = _
    have e : (-1 : Int32).toInt = -1 := rfl
    rw [Int32.toInt_add, ih, e]
    rw [Int.bmod_eq_of_le (by omega) (by omega)]
    omega
/-- p / q between 7/10 and 7/5, and the doublings -/
theorem tl_val {ab be : Int64} {a b : Nat} (ea : un ab = a) (eb : un be = b) (a1 : 1 ≤ a) (a2 : a ≤ 1000000000000) (b1 : 1 ≤ b) (b2 : b ≤ 1000000000000) :
    ∃ n1 n2 : Nat, n1 ≤ 40 ∧ n2 ≤ 41 ∧ un (tl_P ab be) = a * 2 ^ n2 ∧ un (tl_Q ab be) = b * 2 ^ n1 ∧ 7 * (b * 2 ^ n1) < 10 * (a * 2 ^ n2) ∧ 5 * (a * 2 ^ n2) ≤ 7 * (b * 2 ^ n1) ∧ (tl_D ab be).toInt = (n1 : Int) - (n2 : Int) ∧ a * 2 ^ n2 ≤ 2000000000000 ∧ b * 2 ^ n1 ≤ 2000000000000 := by
  obtain ⟨h1, h2, h3⟩ := n1_ok ea eb a1 a2 b1 b2
  have hQ : b * 2 ^ tl_n1 ab be ≤ 2000000000000 := by
    rcases h3 with h3 | h3
    · rw [h3, Nat.pow_zero]; omega
    · omega
  have uQ : un (tl_Q ab be) = b * 2 ^ tl_n1 ab be := tq_un eb _ (by omega)
  have bp : 1 ≤ b * 2 ^ tl_n1 ab be := Nat.mul_pos b1 (Nat.two_pow_pos _)
  obtain ⟨k1, k2, k3⟩ := n2_ok (ab := ab) (be := tl_Q ab be) ea uQ a1 a2 bp hQ
  have k4 : 5 * (a * 2 ^ tl_n2 ab (tl_Q ab be)) ≤ 7 * (b * 2 ^ tl_n1 ab be) := by
    rcases k3 with k3 | k3
    · rw [k3, Nat.pow_zero, Nat.mul_one]; exact h2
    · exact k3
  have hP : a * 2 ^ tl_n2 ab (tl_Q ab be) ≤ 2000000000000 := by
    rcases k3 with k3 | k3
    · rw [k3, Nat.pow_zero]; omega
    · rcases h3 with h3 | h3
      · rw [h3, Nat.pow_zero, Nat.mul_one] at k3; omega
      · -- then no doubling of p is needed
        have : tl_n2 ab (tl_Q ab be) = 0 ∨ 0 < tl_n2 ab (tl_Q ab be) := by omega
        omega
  have uP : un (tl_P ab be) = a * 2 ^ tl_n2 ab (tl_Q ab be) := tq_un ea _ (by omega)
  have hd : (nI (tl_n1 ab be)).toInt = (tl_n1 ab be : Int) := by
    have := nI_L (n := tl_n1 ab be) (by omega)
    rw [Int32.toInt_toInt64] at this
    exact this
  have dd := td_ok (n := (tl_n1 ab be : Int)) hd (by omega) (by omega) (tl_n2 ab (tl_Q ab be)) (by omega)
  exact ⟨tl_n1 ab be, tl_n2 ab (tl_Q ab be), h1, k1, uP, uQ, k2, k4, dd, hP, hQ⟩
