theorem pw_pos (k : Nat) : (0 : Int) < 1000000 ^ k := Int.pow_pos (by decide)
theorem rg_mi (P x V I J d q : Int) : P + x * V * I + (q + x * d - q) * (I * J) = P + x * (V + d * J) * I := by grind
theorem rg_mo (A C d I : Int) : A * C + d * C * I = (A + d * I) * C := by grind
theorem rg_31 (E F c K p a b : Int) (dm : 1000000 * a + b = p + c) : E + 0 * F + c * K + p * K = E + b * K + 0 * F + a * (K * 1000000) := by grind
theorem rg_32 (E V F c K p a b : Int) (dm : 1000000 * a + b = p + c) : E + V * F + c * (K * F) + p * (K * F) = E + (V + b * K) * F + a * (K * F * 1000000) := by grind
def pv (p : Nat → Int64) : Nat → Int
  | 0 => 0
  | k + 1 => pv p k + (p k).toInt * 1000000 ^ k
theorem pv_s (p : Nat → Int64) (k : Nat) : pv p (k + 1) = pv p k + (p k).toInt * 1000000 ^ k := rfl
theorem pv_cong {p q : Nat → Int64} : ∀ k, (∀ j, j < k → q j = p j) → pv q k = pv p k
  | 0, _ => rfl
  | k + 1, H => by rw [pv_s, pv_s, pv_cong k (fun j hj => H j (by omega)), H k (by omega)]
theorem pv_up {p : Nat → Int64} {i : Nat} {v : Int64} : ∀ n, i < n → pv (vp_updL p i v) n = pv p n + (v.toInt - (p i).toInt) * 1000000 ^ i
  | 0, h => absurd h (Nat.not_lt_zero i)
  | n + 1, h => by
    rw [pv_s, pv_s]
    by_cases e : i = n
    · subst e
      rw [up_eq, pv_cong (q := vp_updL p i v) (p := p) i (fun j hj => up_ne p v (by omega)), Int.sub_mul]
      omega
    · rw [pv_up n (by omega), up_ne _ _ (by omega)]
      omega
theorem mi_inv {x : Int64} {b i : Nat} {g p : Nat → Int64} {M : Int} (hx : 0 ≤ x.toInt) (hx2 : x.toInt < 1000000) (ob : ok b g) (hi : i < 24) (hM : M ≤ 100000000000000) (hp : ∀ k, k < 48 → 0 ≤ (p k).toInt ∧ (p k).toInt ≤ M) : ∀ j, j ≤ 24 →
    (∀ k, k < 48 → 0 ≤ (md_mi x b g i p j k).toInt ∧ (md_mi x b g i p j k).toInt ≤ M + 1000000000000) ∧ (∀ k, i + j ≤ k → md_mi x b g i p j k = p k) ∧ pv (md_mi x b g i p j) 48 = pv p 48 + x.toInt * vv b g j * 1000000 ^ i
  | 0, _ => ⟨fun k hk => ⟨(hp k hk).1, by have := (hp k hk).2; show (p k).toInt ≤ _; omega⟩, fun _ _ => rfl, by show pv p 48 = _; unfold vv; simp⟩
  | j + 1, hj => by
    obtain ⟨h1, h2, h3⟩ := mi_inv hx hx2 ob hi hM hp j (by omega)
    have hd := ob j (by omega)
    have ep := h2 (i + j) (Nat.le_refl _)
    have hq := hp (i + j) (by omega)
    have m1 : 0 ≤ x.toInt * (g (24 * b + j)).toInt := Int.mul_nonneg hx hd.1
    have m2 : x.toInt * (g (24 * b + j)).toInt ≤ 999999 * 999999 := Int.mul_le_mul (by omega) (by omega) hd.1 (by omega)
    have e1 : (x * g (24 * b + j)).toInt = x.toInt * (g (24 * b + j)).toInt := tI_mul (by omega) (by omega)
    have e2 : (md_mi x b g i p j (i + j) + x * g (24 * b + j)).toInt = (p (i + j)).toInt + x.toInt * (g (24 * b + j)).toInt := by
      rw [ep, tI_add] <;> rw [e1] <;> omega
    show (∀ k, k < 48 → 0 ≤ (vp_updL (md_mi x b g i p j) (i + j) (md_mi x b g i p j (i + j) + x * g (24 * b + j)) k).toInt ∧ (vp_updL (md_mi x b g i p j) (i + j) (md_mi x b g i p j (i + j) + x * g (24 * b + j)) k).toInt ≤ M + 1000000000000) ∧ (∀ k, i + (j + 1) ≤ k → vp_updL (md_mi x b g i p j) (i + j) (md_mi x b g i p j (i + j) + x * g (24 * b + j)) k = p k) ∧ pv (vp_updL (md_mi x b g i p j) (i + j) (md_mi x b g i p j (i + j) + x * g (24 * b + j))) 48 = pv p 48 + x.toInt * vv b g (j + 1) * 1000000 ^ i
    refine ⟨fun k hk => ?_, fun k hk => ?_, ?_⟩
    · by_cases e : k = i + j
      · subst e; rw [up_eq, e2]; omega
      · rw [up_ne _ _ e]; exact h1 k hk
    · rw [up_ne _ _ (by omega)]; exact h2 k (by omega)
    · rw [pv_up 48 (by omega), h3, e2, ep, vv_s, Int.pow_add]
      exact rg_mi _ _ _ _ _ _ _
theorem pv_fl (p : Nat → Int64) : ∀ n, n ≤ 48 → pv (wd_fl p 0 48) n = 0
  | 0, _ => rfl
  | n + 1, h => by
    rw [pv_s, pv_fl p n (by omega), show wd_fl p 0 48 n = 0 by unfold wd_fl; exact if_pos (by omega), show (0 : Int64).toInt = 0 from rfl]
    simp
theorem mo_inv {a b : Nat} {g p : Nat → Int64} (oa : ok a g) (ob : ok b g) : ∀ i, i ≤ 24 →
    (∀ k, k < 48 → 0 ≤ (md_mo a b g p i k).toInt ∧ (md_mo a b g p i k).toInt ≤ 1000000000000 * (i : Int)) ∧ pv (md_mo a b g p i) 48 = vv a g i * vv b g 24
  | 0, _ => ⟨fun k hk => by show 0 ≤ (wd_fl p 0 48 k).toInt ∧ (wd_fl p 0 48 k).toInt ≤ _; rw [show wd_fl p 0 48 k = 0 by unfold wd_fl; exact if_pos hk]; decide, by show pv (wd_fl p 0 48) 48 = _; rw [pv_fl p 48 (Nat.le_refl _)]; unfold vv; simp⟩
  | i + 1, hi => by
    obtain ⟨h1, h2⟩ := mo_inv (p := p) oa ob i (by omega)
    have hd := oa i (by omega)
    show (∀ k, k < 48 → 0 ≤ ((if g (24 * a + i) ≤ 0 then md_mo a b g p i else md_mi (g (24 * a + i)) b g i (md_mo a b g p i) 24) k).toInt ∧ ((if g (24 * a + i) ≤ 0 then md_mo a b g p i else md_mi (g (24 * a + i)) b g i (md_mo a b g p i) 24) k).toInt ≤ 1000000000000 * ((i + 1 : Nat) : Int)) ∧ pv (if g (24 * a + i) ≤ 0 then md_mo a b g p i else md_mi (g (24 * a + i)) b g i (md_mo a b g p i) 24) 48 = vv a g (i + 1) * vv b g 24
    have hM : 1000000000000 * (i : Int) ≤ 100000000000000 := by omega
    have e1 : ((i + 1 : Nat) : Int) = (i : Int) + 1 := by omega
    rw [vv_s, e1]
    by_cases h : g (24 * a + i) ≤ 0
    · rw [if_pos h]
      rw [Int64.le_iff_toInt_le] at h
      have e0 : (0 : Int64).toInt = 0 := rfl
      have ez : (g (24 * a + i)).toInt = 0 := by omega
      refine ⟨fun k hk => ⟨(h1 k hk).1, by have := (h1 k hk).2; omega⟩, by rw [h2, ez]; simp⟩
    · rw [if_neg h]
      obtain ⟨k1, -, k3⟩ := mi_inv hd.1 hd.2 ob (show i < 24 by omega) hM h1 24 (Nat.le_refl _)
      refine ⟨fun k hk => ⟨(k1 k hk).1, by have := (k1 k hk).2; omega⟩, ?_⟩
      rw [k3, h2]
      exact rg_mo _ _ _ _
theorem pv_mono {p : Nat → Int64} (hp : ∀ k, k < 48 → 0 ≤ (p k).toInt) : ∀ n a, a + n ≤ 48 → pv p a ≤ pv p (a + n)
  | 0, _, _ => Int.le_refl _
  | n + 1, a, h => by
    have := pv_mono hp n a (by omega)
    have := Int.mul_nonneg (hp (a + n) (by omega)) (Int.le_of_lt (pw_pos (a + n)))
    show _ ≤ pv p (a + n) + (p (a + n)).toInt * 1000000 ^ (a + n)
    omega
theorem pv_top {p : Nat → Int64} (hp : ∀ k, k < 48 → 0 ≤ (p k).toInt) : ∀ n a, a + n ≤ 48 → pv p (a + n) < 1000000 ^ a → pv p (a + n) = pv p a
  | 0, _, _, _ => rfl
  | n + 1, a, h, hb => by
    have h0 := hp (a + n) (by omega)
    have m0 := pv_mono hp (a + n) 0 (by omega)
    rw [Nat.zero_add] at m0
    have m1 : 0 ≤ pv p (a + n) := m0
    have pw : (1000000 : Int) ^ a ≤ 1000000 ^ (a + n) := by
      rw [Int.pow_add]
      have := pw_pos n
      have := Int.mul_le_mul_of_nonneg_left (show (1 : Int) ≤ 1000000 ^ n by omega) (Int.le_of_lt (pw_pos a))
      omega
    have hb2 : pv p (a + n) + (p (a + n)).toInt * 1000000 ^ (a + n) < 1000000 ^ a := hb
    have hz : (p (a + n)).toInt = 0 := by
      by_cases e : (p (a + n)).toInt = 0
      · exact e
      · have := Int.mul_le_mul_of_nonneg_right (show (1 : Int) ≤ (p (a + n)).toInt by omega) (Int.le_of_lt (pw_pos (a + n)))
        omega
    show pv p (a + n) + (p (a + n)).toInt * 1000000 ^ (a + n) = _
    rw [hz] at hb2 ⊢
    rw [Int.zero_mul, Int.add_zero] at hb2 ⊢
    exact pv_top hp n a (by omega) hb2
theorem m3_st {f r k : Nat} {p g z : Nat → Int64} {c : Int64} (hp : ∀ k, k < 48 → 0 ≤ (p k).toInt ∧ (p k).toInt ≤ 100000000000000) (hk : k + 1 ≤ 48) (hf : k + 1 ≤ f + 24) (IH : (∀ j, j < k - f → 0 ≤ (z (24 * r + j)).toInt ∧ (z (24 * r + j)).toInt < 1000000) ∧ (∀ i, (i < 24 * r ∨ 24 * r + (k - f) ≤ i) → z i = g i) ∧ 0 ≤ c.toInt ∧ c.toInt ≤ 100000000000000 ∧ ∃ E : Int, 0 ≤ E ∧ E < 1000000 ^ (min k f) ∧ pv p k = E + vv r z (k - f) * 1000000 ^ f + c.toInt * 1000000 ^ k) :
    (∀ j, j < k + 1 - f → 0 ≤ ((if k < f then z else if 24 ≤ k - f then z else vp_updL z (24 * r + (k - f)) (pu_rem (p k + c) 1000000)) (24 * r + j)).toInt ∧ ((if k < f then z else if 24 ≤ k - f then z else vp_updL z (24 * r + (k - f)) (pu_rem (p k + c) 1000000)) (24 * r + j)).toInt < 1000000) ∧ (∀ i, (i < 24 * r ∨ 24 * r + (k + 1 - f) ≤ i) → (if k < f then z else if 24 ≤ k - f then z else vp_updL z (24 * r + (k - f)) (pu_rem (p k + c) 1000000)) i = g i) ∧ 0 ≤ ((p k + c) / 1000000).toInt ∧ ((p k + c) / 1000000).toInt ≤ 100000000000000 ∧
    ∃ E : Int, 0 ≤ E ∧ E < 1000000 ^ (min (k + 1) f) ∧ pv p (k + 1) = E + vv r (if k < f then z else if 24 ≤ k - f then z else vp_updL z (24 * r + (k - f)) (pu_rem (p k + c) 1000000)) (k + 1 - f) * 1000000 ^ f + ((p k + c) / 1000000).toInt * 1000000 ^ (k + 1) := by
    obtain ⟨h1, h2, h3, h4, E, hE0, hE1, hE⟩ := IH
    have hpk := hp k (by omega)
    have ev : (p k + c).toInt = (p k).toInt + c.toInt := tI_add (by omega) (by omega)
    have ev0 : 0 ≤ (p k + c).toInt := by omega
    have er := tI_rem (b := 1000000) ev0 (by decide)
    have eq := tI_div (b := 1000000) ev0 (by decide)
    rw [e6] at er eq
    have dm := Int.mul_ediv_add_emod (p k + c).toInt 1000000
    have d1 := Int.emod_nonneg (p k + c).toInt (show (1000000 : Int) ≠ 0 by decide)
    have d2 := Int.emod_lt_of_pos (p k + c).toInt (show (0 : Int) < 1000000 by decide)
    have pp : (0 : Int) < 1000000 ^ k := Int.pow_pos (by decide)
    rw [eq]
    generalize (p k + c).toInt / 1000000 = a at *
    generalize (p k + c).toInt % 1000000 = b at *
    by_cases hkf : k < f
    · rw [if_pos hkf]
      refine ⟨fun j hj => absurd hj (by omega), fun i hi => h2 i (by omega), by omega, by omega, E + b * 1000000 ^ k, ?_, ?_, ?_⟩
      · have := Int.mul_nonneg d1 (Int.le_of_lt pp); omega
      · rw [show min (k + 1) f = k + 1 by omega, Int.pow_succ]
        rw [show min k f = k by omega] at hE1
        have := Int.mul_le_mul_of_nonneg_right (show b ≤ 999999 by omega) (Int.le_of_lt pp)
        omega
      · rw [pv_s, hE, show k + 1 - f = 0 by omega, show k - f = 0 by omega, Int.pow_succ]
        rw [ev] at dm
        have : vv r z 0 = 0 := rfl
        rw [this]
        exact rg_31 _ _ _ _ _ _ _ dm
    · rw [if_neg hkf, if_neg (show ¬ 24 ≤ k - f by omega)]
      refine ⟨fun j hj => ?_, fun i hi => ?_, by omega, by omega, E, hE0, ?_, ?_⟩
      · by_cases e : j = k - f
        · subst e; rw [up_eq, er]; omega
        · rw [up_ne _ _ (by omega)]; exact h1 j (by omega)
      · rw [up_ne _ _ (by omega)]; exact h2 i (by omega)
      · rw [show min (k + 1) f = f by omega]
        rw [show min k f = f by omega] at hE1
        exact hE1
      · have pk : (1000000 : Int) ^ k = 1000000 ^ (k - f) * 1000000 ^ f := by rw [← Int.pow_add, show k - f + f = k by omega]
        rw [pv_s, hE, show k + 1 - f = k - f + 1 by omega, vv_up, er, Int.pow_succ, pk]
        rw [ev] at dm
        exact rg_32 _ _ _ _ _ _ _ _ dm
theorem m3_inv {f r : Nat} {p g : Nat → Int64} (hp : ∀ k, k < 48 → 0 ≤ (p k).toInt ∧ (p k).toInt ≤ 100000000000000) : ∀ k, k ≤ 48 → k ≤ f + 24 →
    (∀ j, j < k - f → 0 ≤ ((md_m3 f r p g k).1 (24 * r + j)).toInt ∧ ((md_m3 f r p g k).1 (24 * r + j)).toInt < 1000000) ∧ (∀ i, (i < 24 * r ∨ 24 * r + (k - f) ≤ i) → (md_m3 f r p g k).1 i = g i) ∧ 0 ≤ (md_m3 f r p g k).2.toInt ∧ (md_m3 f r p g k).2.toInt ≤ 100000000000000 ∧
    ∃ E : Int, 0 ≤ E ∧ E < 1000000 ^ (min k f) ∧ pv p k = E + vv r (md_m3 f r p g k).1 (k - f) * 1000000 ^ f + (md_m3 f r p g k).2.toInt * 1000000 ^ k
  | 0, _, _ => ⟨fun j hj => absurd hj (by omega), fun _ _ => rfl, Int.le_refl _, show (0 : Int) ≤ _ by decide, 0, Int.le_refl _, Int.pow_pos (by decide), by rw [Nat.zero_sub]; unfold pv vv md_m3; simp⟩
  | k + 1, hk, hf => by
    have IH := m3_inv (f := f) (r := r) (g := g) hp k (by omega) (by omega)
    have e1 : (md_m3 f r p g (k + 1)).1 = if k < f then (md_m3 f r p g k).1 else if 24 ≤ k - f then (md_m3 f r p g k).1 else vp_updL (md_m3 f r p g k).1 (24 * r + (k - f)) (pu_rem (p k + (md_m3 f r p g k).2) 1000000) := rfl
    have e2 : (md_m3 f r p g (k + 1)).2 = (p k + (md_m3 f r p g k).2) / 1000000 := rfl
    rw [e1, e2]
    clear e1 e2
    generalize md_m3 f r p g k = Z at *
    obtain ⟨z, c⟩ := Z
    exact m3_st hp hk hf IH
theorem m3_top {f r : Nat} {p g : Nat → Int64} : ∀ n, (md_m3 f r p g (f + 24 + n)).1 = (md_m3 f r p g (f + 24)).1
  | 0 => rfl
  | n + 1 => by
    rw [← m3_top n]
    exact (if_neg (show ¬ f + 24 + n < f by omega)).trans (if_pos (show 24 ≤ f + 24 + n - f by omega))
/-- multiply: rounded down, where it has room -/
theorem mul_ok {f r a b : Nat} {g p : Nat → Int64} (hf : f ≤ 24) (oa : ok a g) (ob : ok b g) (hb : vv a g 24 * vv b g 24 < 1000000 ^ (f + 24)) : ok r (mr_mul f r a b g p) ∧ fr r g (mr_mul f r a b g p) ∧ vv r (mr_mul f r a b g p) 24 = vv a g 24 * vv b g 24 / 1000000 ^ f := by
  obtain ⟨q1, q2⟩ := mo_inv (p := p) oa ob 24 (Nat.le_refl _)
  unfold mr_mul
  rw [ir_eq]
  generalize md_mo a b g p 24 = M at *
  have hp : ∀ k, k < 48 → 0 ≤ (M k).toInt ∧ (M k).toInt ≤ 100000000000000 := fun k hk => ⟨(q1 k hk).1, by have := (q1 k hk).2; omega⟩
  obtain ⟨h1, h2, h3, h4, E, hE0, hE1, hE⟩ := m3_inv (f := f) (r := r) (g := g) hp (f + 24) (by omega) (Nat.le_refl _)
  have et : (md_m3 f r M g 48).1 = (md_m3 f r M g (f + 24)).1 := by
    have := m3_top (f := f) (r := r) (p := M) (g := g) (24 - f)
    rwa [show f + 24 + (24 - f) = 48 by omega] at this
  rw [et]
  rw [show f + 24 - f = 24 by omega] at h1 h2 hE
  have ho : ok r (md_m3 f r M g (f + 24)).1 := h1
  refine ⟨ho, h2, ?_⟩
  have ht : pv M 48 = pv M (f + 24) := by
    have := pv_top (p := M) (fun k hk => (hp k hk).1) (24 - f) (f + 24) (by omega)
    rw [show f + 24 + (24 - f) = 48 by omega, q2] at this
    rw [q2]
    exact this hb
  rw [show min (f + 24) f = f by omega] at hE1
  rw [q2] at ht
  have hv := (vv_bd ho 24 (Nat.le_refl _)).1
  generalize vv r (md_m3 f r M g (f + 24)).1 24 = x at *
  generalize (md_m3 f r M g (f + 24)).2.toInt = c at *
  have pf : (0 : Int) < 1000000 ^ f := Int.pow_pos (by decide)
  have pf2 : (0 : Int) < 1000000 ^ (f + 24) := Int.pow_pos (by decide)
  have hxf := Int.mul_nonneg hv (Int.le_of_lt pf)
  have hc : c = 0 := by
    by_cases e : c = 0
    · exact e
    · have := Int.mul_le_mul_of_nonneg_right (show (1 : Int) ≤ c by omega) (Int.le_of_lt pf2)
      omega
  subst hc
  rw [ht, hE, Int.zero_mul, Int.add_zero, Int.add_mul_ediv_right _ _ (Int.ne_of_gt pf), Int.ediv_eq_zero_of_lt hE0 hE1, Int.zero_add]
