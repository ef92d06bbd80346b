/-! the class's power: where its series ends, and its squares -/
theorem ce_half {a D : Nat} (hD : 0 < D) (h : 8 * a ≤ 5 * D) : ∀ n, ceT a D (n + 1) * 2 ^ n ≤ 2 ^ 160
  | 0 => by have := (cw_bd (ng := true) hD h 0).2.2.2.2.2; rw [Nat.pow_zero, Nat.mul_one]; exact Nat.le_trans this (by decide)
  | n + 1 => by
    have ih := ce_half hD h n
    have k := cw_dv (T := ceT a D (n + 1)) (n := n + 1) hD h
    have e : ceT a D (n + 1 + 1) = ceT a D (n + 1) * a / (D * (n + 1 + 1)) := rfl
    rw [← e] at k
    have k2 : 16 * ceT a D (n + 1 + 1) ≤ 5 * ceT a D (n + 1) := Nat.le_trans (Nat.mul_le_mul_right _ (show 16 ≤ 8 * (n + 1 + 1) by omega)) k
    have k3 : 2 * ceT a D (n + 1 + 1) ≤ ceT a D (n + 1) := by omega
    have k4 := Nat.mul_le_mul_right (2 ^ n) k3
    have e2 : ceT a D (n + 1 + 1) * 2 ^ (n + 1) = 2 * ceT a D (n + 1 + 1) * 2 ^ n := by rw [Nat.pow_succ]; grind
    omega
theorem ce_zero {a D : Nat} (hD : 0 < D) (h : 8 * a ≤ 5 * D) : ceT a D 200 = 0 := by
  have := ce_half hD h 199
  by_cases q : ceT a D 200 = 0
  · exact q
  · have h1 : 1 * 2 ^ 199 ≤ ceT a D 200 * 2 ^ 199 := Nat.mul_le_mul_right _ (by omega)
    have h2 : ¬ 1 * 2 ^ 199 ≤ 2 ^ 160 := by decide
    exact absurd (Nat.le_trans h1 this) h2
theorem q_up {q r K : Nat} (h : q ≤ K * 2 ^ 160) (hr : r ≤ q * q / 2 ^ 160) : r ≤ K * K * 2 ^ 160 := by
  have h1 := Nat.mul_le_mul h h
  have e : K * 2 ^ 160 * (K * 2 ^ 160) = K * K * 2 ^ 160 * 2 ^ 160 := by generalize 2 ^ 160 = P; grind
  have h2 : q * q / 2 ^ 160 ≤ K * K * 2 ^ 160 * 2 ^ 160 / 2 ^ 160 := Nat.div_le_div_right (by rw [← e]; exact h1)
  rw [Nat.mul_div_cancel _ (by decide)] at h2
  omega
theorem q_room {q : Nat} (h : q ≤ 3 ^ 16 * 2 ^ 160) : q * q < 2 ^ 384 := Nat.lt_of_le_of_lt (Nat.mul_le_mul h h) (by decide)
theorem csq_val {w : rk_U} (o0 : okw (w 0) 7) (h : uv (w 0) 7 ≤ 3 * 2 ^ 160) : ∀ j, j ≤ 5 → okw (rk_it (fun _ => rk_mul 5 0 0) j w 0) 7 ∧ uv (rk_it (fun _ => rk_mul 5 0 0) j w 0) 7 ≤ 3 ^ (2 ^ j) * 2 ^ 160 ∧ (0 < j → uv (rk_it (fun _ => rk_mul 5 0 0) j w 0) 7 ≤ uv (rk_it (fun _ => rk_mul 5 0 0) (j - 1) w 0) 7 * uv (rk_it (fun _ => rk_mul 5 0 0) (j - 1) w 0) 7 / 2 ^ 160 ∧ uv (rk_it (fun _ => rk_mul 5 0 0) (j - 1) w 0) 7 * uv (rk_it (fun _ => rk_mul 5 0 0) (j - 1) w 0) 7 / 2 ^ 160 ≤ uv (rk_it (fun _ => rk_mul 5 0 0) j w 0) 7 + 4)
  | 0, _ => ⟨o0, h, fun q => absurd q (by decide)⟩
  | j + 1, hj => by
    obtain ⟨a, b, -⟩ := csq_val o0 h j (by omega)
    have E : rk_it (fun _ => rk_mul 5 0 0) (j + 1) w = rk_mul 5 0 0 (rk_it (fun _ => rk_mul 5 0 0) j w) := rfl
    rw [E, show j + 1 - 1 = j from rfl]
    generalize rk_it (fun _ => rk_mul 5 0 0) j w = v at *
    have hb : uv (v 0) 7 ≤ 3 ^ 16 * 2 ^ 160 := by
      refine Nat.le_trans b (Nat.mul_le_mul_right _ (Nat.pow_le_pow_right (by decide) ?_))
      exact Nat.le_trans (Nat.pow_le_pow_right (by decide) (show j ≤ 4 by omega)) (by decide)
    have m := mulF_ok (p := v (2 * 0 + 1)) a a (q_room hb)
    have e0 : rk_mul 5 0 0 v 0 = wr_mul 5 (v 0) (v 0) (v (2 * 0 + 1)) := (vup_ne _ _ (by decide)).trans (vup_eq _ _ _)
    rw [e0]
    refine ⟨m.1, ?_, fun _ => m.2⟩
    have := q_up b m.2.1
    rw [← Nat.pow_add] at this
    rw [show 2 ^ (j + 1) = 2 ^ j + 2 ^ j by rw [Nat.pow_succ]; omega]
    exact this
/-- raiseE: the sum at the first nought, squared five times, each time at most 4 units too small -/
theorem raise_val {ab be : Int64} {u : rk_U} {a D : Nat} (ea : un (pu_abl ab) = a) (ed : un (pu_sl be 5) = D) (ha : a < 2 ^ 31) (hD : 0 < D) (hD2 : D * 400 < 2 ^ 47) (h : 8 * a ≤ 5 * D) :
    ∃ k, k ≤ 200 ∧ ceT a D k = 0 ∧ ∃ q : Nat → Nat, q 0 = ceS (decide (ab < 0)) a D k ∧ (∀ j, j ≤ 5 → q j ≤ 3 ^ (2 ^ j) * 2 ^ 160) ∧ (∀ j, j < 5 → q (j + 1) ≤ q j * q j / 2 ^ 160 ∧ q j * q j / 2 ^ 160 ≤ q (j + 1) + 4) ∧ okw (rk_raise ab be u 0) 7 ∧ uv (rk_raise ab be u 0) 7 = q 5 := by
  have l0 := load_ok (f := u (2 * 0)) (x := 1)
  have l1 := load_ok (f := rk_load 0 1 u (2 * 1)) (x := 1)
  have x0 : rk_load 1 1 (rk_load 0 1 u) 0 = wr_load (u (2 * 0)) 1 := (vup_ne _ _ (by decide)).trans (vup_eq _ _ _)
  have x2 : rk_load 1 1 (rk_load 0 1 u) 2 = wr_load (rk_load 0 1 u (2 * 1)) 1 := vup_eq _ _ _
  rw [← x0] at l0
  rw [← x2] at l1
  have E : rk_raise ab be u = rk_it (fun _ => rk_mul 5 0 0) 5 (rk_it (rk_eB ab be) (rk_stop (fun i => wr_z (rk_it (rk_eB ab be) i (rk_load 1 1 (rk_load 0 1 u)) 2)) 399 0) (rk_load 1 1 (rk_load 0 1 u))) := rfl
  rw [E]
  generalize rk_load 1 1 (rk_load 0 1 u) = v at *
  have iv := fun n hn => cw_val ea ed ha hD hD2 h l0.1 l1.1 (by rw [l0.2]; rfl) (by rw [l1.2]; rfl) n hn
  have st := stop_ok (fun i => wr_z (rk_it (rk_eB ab be) i v 2)) 399 0 200 (by
    have i9 := iv 200 (by decide)
    exact (zw_ok i9.2.1).mpr (by rw [i9.2.2.1]; exact ce_zero hD h)) (Nat.zero_le _) (by decide)
  generalize rk_stop (fun i => wr_z (rk_it (rk_eB ab be) i v 2)) 399 0 = k at *
  obtain ⟨-, s2, s3⟩ := st
  obtain ⟨j1, j2, j3, j4⟩ := iv k (by omega)
  have hz := (zw_ok j2).mp s2
  rw [j3] at hz
  have hS : uv (rk_it (rk_eB ab be) k v 0) 7 ≤ 3 * 2 ^ 160 := by
    rw [j4]
    cases k with
    | zero => show 2 ^ 160 ≤ 3 * 2 ^ 160; decide
    | succ n => have := (cw_bd (ng := decide (ab < 0)) hD h (n + 1)).2.2.2.1 (by omega); omega
  have cs := fun j hj => csq_val j1 hS j hj
  refine ⟨k, s3, hz, fun j => uv (rk_it (fun _ => rk_mul 5 0 0) j (rk_it (rk_eB ab be) k v) 0) 7, j4, fun j hj => (cs j hj).2.1, fun j hj => ?_, (cs 5 (Nat.le_refl _)).1, rfl⟩
  exact (cs (j + 1) (by omega)).2.2 (by omega)
