/-! the class's power series over Nat -/
def ceT (a D : Nat) : Nat → Nat
  | 0 => 2 ^ 160
  | n + 1 => ceT a D n * a / (D * (n + 1))
def ceS (ng : Bool) (a D : Nat) : Nat → Nat
  | 0 => 2 ^ 160
  | n + 1 => if ng = true ∧ (n + 1) % 2 = 1 then ceS ng a D n - ceT a D (n + 1) else ceS ng a D n + ceT a D (n + 1)
theorem odd_and : ∀ q, q < 401 → (nI q &&& 1 = 1 ↔ q % 2 = 1) := by decide +kernel
theorem cw_dv {T a D n : Nat} (hD : 0 < D) (h : 8 * a ≤ 5 * D) : 8 * (n + 1) * (T * a / (D * (n + 1))) ≤ 5 * T := by
  have h1 := Nat.div_mul_le_self (T * a) (D * (n + 1))
  have h2 := Nat.mul_le_mul_left T h
  generalize T * a / (D * (n + 1)) = d at *
  refine Nat.le_of_mul_le_mul_right (c := D) ?_ hD
  have e1 : 8 * (n + 1) * d * D = 8 * (d * (D * (n + 1))) := by grind
  have e2 : 5 * T * D = T * (5 * D) := by grind
  have e3 : T * (8 * a) = 8 * (T * a) := by grind
  rw [e1, e2]
  rw [e3] at h2
  omega
theorem cw_bd {ng : Bool} {a D : Nat} (hD : 0 < D) (h : 8 * a ≤ 5 * D) : ∀ n, ceT a D (n + 1) ≤ ceS ng a D n ∧ (n % 2 = 0 → 3 * 2 ^ 160 + 8 * ceT a D (n + 1) ≤ 8 * ceS ng a D n) ∧ (n % 2 = 1 → 3 * 2 ^ 160 ≤ 8 * ceS ng a D n) ∧ (0 < n → 4 * ceS ng a D n + 4 * ceT a D n ≤ 9 * 2 ^ 160) ∧ 8 * ceT a D (n + 1) ≤ 5 * ceT a D n ∧ ceT a D (n + 1) ≤ 5 * 2 ^ 157
  | 0 => by
    have k := cw_dv (T := 2 ^ 160) (n := 0) hD h
    have e : ceT a D 1 = 2 ^ 160 * a / (D * (0 + 1)) := rfl
    rw [← e] at k
    show ceT a D 1 ≤ 2 ^ 160 ∧ (0 % 2 = 0 → 3 * 2 ^ 160 + 8 * ceT a D 1 ≤ 8 * 2 ^ 160) ∧ (0 % 2 = 1 → 3 * 2 ^ 160 ≤ 8 * 2 ^ 160) ∧ (0 < 0 → _) ∧ 8 * ceT a D 1 ≤ 5 * 2 ^ 160 ∧ ceT a D 1 ≤ 5 * 2 ^ 157
    generalize ceT a D 1 = x at *
    omega
  | n + 1 => by
    obtain ⟨i1, i2, i3, i4, i5, i6⟩ := cw_bd (ng := ng) hD h n
    have k := cw_dv (T := ceT a D (n + 1)) (n := n + 1) hD h
    have e : ceT a D (n + 1 + 1) = ceT a D (n + 1) * a / (D * (n + 1 + 1)) := rfl
    rw [← e] at k
    have k2 : 16 * ceT a D (n + 1 + 1) ≤ 5 * ceT a D (n + 1) := by
      refine Nat.le_trans (Nat.mul_le_mul_right _ (show 16 ≤ 8 * (n + 1 + 1) by omega)) k
    have E : ceS ng a D (n + 1) = if ng = true ∧ (n + 1) % 2 = 1 then ceS ng a D n - ceT a D (n + 1) else ceS ng a D n + ceT a D (n + 1) := rfl
    have hS : ceS ng a D (n + 1) ≤ ceS ng a D n + ceT a D (n + 1) := by rw [E]; split <;> omega
    have hu : 4 * ceS ng a D (n + 1) + 4 * ceT a D (n + 1) ≤ 9 * 2 ^ 160 := by
      cases n with
      | zero =>
        have e0 : ceS ng a D 0 = 2 ^ 160 := rfl
        rw [e0] at hS
        generalize ceT a D (0 + 1) = x at *
        omega
      | succ m =>
        have := i4 (by omega)
        have k3 := cw_dv (T := ceT a D (m + 1)) (n := m + 1) hD h
        have e3 : ceT a D (m + 1 + 1) = ceT a D (m + 1) * a / (D * (m + 1 + 1)) := rfl
        rw [← e3] at k3
        have k4 : 16 * ceT a D (m + 1 + 1) ≤ 5 * ceT a D (m + 1) := Nat.le_trans (Nat.mul_le_mul_right _ (show 16 ≤ 8 * (m + 1 + 1) by omega)) k3
        omega
    rcases (show n % 2 = 0 ∨ n % 2 = 1 by omega) with hn | hn
    · have j2 := i2 hn
      have hl : 3 * 2 ^ 160 ≤ 8 * ceS ng a D (n + 1) := by rw [E]; split <;> omega
      refine ⟨by omega, fun q => absurd q (by omega), fun _ => hl, fun _ => hu, by omega, by omega⟩
    · have j3 := i3 hn
      have hl : 3 * 2 ^ 160 + 8 * ceT a D (n + 1) ≤ 8 * ceS ng a D (n + 1) := by
        rw [E, if_neg (fun q => by have := q.2; omega)]; omega
      refine ⟨by omega, fun _ => by omega, fun q => absurd q (by omega), fun _ => hu, by omega, by omega⟩
theorem cw_val {ab be : Int64} {u : rk_U} {a D : Nat} (ea : un (pu_abl ab) = a) (ed : un (pu_sl be 5) = D) (ha : a < 2 ^ 31) (hD : 0 < D) (hD2 : D * 400 < 2 ^ 47) (h : 8 * a ≤ 5 * D) (o0 : okw (u 0) 7) (o2 : okw (u 2) 7) (e0 : uv (u 0) 7 = 2 ^ 160) (e2 : uv (u 2) 7 = 2 ^ 160) : ∀ n, n ≤ 399 →
    okw (rk_it (rk_eB ab be) n u 0) 7 ∧ okw (rk_it (rk_eB ab be) n u 2) 7 ∧ uv (rk_it (rk_eB ab be) n u 2) 7 = ceT a D n ∧ uv (rk_it (rk_eB ab be) n u 0) 7 = ceS (decide (ab < 0)) a D n
  | 0, _ => ⟨o0, o2, e2, e0⟩
  | n + 1, hn => by
    obtain ⟨i1, i2, i3, i4⟩ := cw_val ea ed ha hD hD2 h o0 o2 e0 e2 n (by omega)
    have E : rk_it (rk_eB ab be) (n + 1) u = rk_eB ab be n (rk_it (rk_eB ab be) n u) := rfl
    rw [E]
    generalize rk_it (rk_eB ab be) n u = w at *
    obtain ⟨b1, b2, b3, b4, b5, b6⟩ := cw_bd (ng := decide (ab < 0)) hD h n
    have s := scl_ok (k := pu_abl ab) i2 (by rw [ea]; exact ha)
    have hT : ceT a D n ≤ 2 ^ 160 := by
      cases n with
      | zero => exact Nat.le_refl _
      | succ m => have := (cw_bd (ng := true) hD h m).2.2.2.2.2; omega
    have sm : ceT a D n * a < 2 ^ 224 := by
      have := Nat.mul_le_mul hT (Nat.le_of_lt ha)
      exact Nat.lt_of_le_of_lt this (by decide)
    rw [i3, ea, Nat.mod_eq_of_lt sm] at s
    have q1 : un ((nI (n + 1)).toInt64) = n + 1 := by rw [nI_toL (by omega), un_nL (by omega)]
    have hm : D * (n + 1) < 2 ^ 47 := Nat.lt_of_le_of_lt (Nat.mul_le_mul_left D (show n + 1 ≤ 400 by omega)) hD2
    have eq : un (pu_sl be 5 * (nI (n + 1)).toInt64) = D * (n + 1) := by rw [un_mul, ed, q1, Nat.mod_eq_of_lt (by omega)]
    have d := dvw_ok (d := pu_sl be 5 * (nI (n + 1)).toInt64) s.1 (by rw [eq]; exact Nat.mul_pos hD (by omega)) (by rw [eq]; exact hm)
    rw [s.2, eq] at d
    have dT : uv (wr_dv (wr_scl (w 2) (pu_abl ab)) (pu_sl be 5 * (nI (n + 1)).toInt64)) 7 = ceT a D (n + 1) := d.2
    have x2 : rk_eB ab be n w 2 = wr_dv (wr_scl (w 2) (pu_abl ab)) (pu_sl be 5 * (nI (n + 1)).toInt64) := rfl
    have x0 : rk_eB ab be n w 0 = wr_as (w 0) (wr_dv (wr_scl (w 2) (pu_abl ab)) (pu_sl be 5 * (nI (n + 1)).toInt64)) (if ab < 0 ∧ nI (n + 1) &&& 1 = 1 then 1 else 0) := rfl
    rw [x2, x0]
    have aw := addw_ok i1 d.1
    have sw := subw_ok i1 d.1
    rw [dT, i4] at aw sw
    have lt := uv_lt 7 i1
    rw [i4, show 32 * 7 = 224 from rfl] at lt
    have ES : ceS (decide (ab < 0)) a D (n + 1) = if decide (ab < 0) = true ∧ (n + 1) % 2 = 1 then ceS (decide (ab < 0)) a D n - ceT a D (n + 1) else ceS (decide (ab < 0)) a D n + ceT a D (n + 1) := rfl
    rw [ES]
    have big : ceS (decide (ab < 0)) a D n + ceT a D (n + 1) < 2 ^ 224 := by
      have c1 : 4 * ceS (decide (ab < 0)) a D n ≤ 9 * 2 ^ 160 := by
        cases n with
        | zero => show 4 * 2 ^ 160 ≤ 9 * 2 ^ 160; decide
        | succ m => have := b4 (by omega); omega
      omega
    unfold wr_as
    rw [ir_eq]
    by_cases c : ab < 0 ∧ nI (n + 1) &&& 1 = 1
    · rw [if_pos c, if_neg (by decide), if_pos ⟨decide_eq_true c.1, (odd_and (n + 1) (by omega)).mp c.2⟩]
      unfold wr_sub at sw
      rw [ir_eq] at sw
      refine ⟨sw.1, d.1, dT, ?_⟩
      rw [sw.2, show ceS (decide (ab < 0)) a D n + 2 ^ 224 - ceT a D (n + 1) = ceS (decide (ab < 0)) a D n - ceT a D (n + 1) + 2 ^ 224 by omega, Nat.add_mod_right, Nat.mod_eq_of_lt (by omega)]
    · rw [if_neg c, if_pos rfl, if_neg (fun q => c ⟨of_decide_eq_true q.1, (odd_and (n + 1) (by omega)).mpr q.2⟩)]
      unfold wr_add at aw
      rw [ir_eq] at aw
      exact ⟨aw.1, d.1, dT, by rw [aw.2, Nat.mod_eq_of_lt big]⟩
