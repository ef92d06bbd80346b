theorem wh_inv {f r : Nat} {v : Int64} {g : Nat → Int64} (hv : 0 ≤ v.toInt) : ∀ k, k ≤ 24 →
    (∀ j, j < k → 0 ≤ ((md_wh f r v g k).1 (24 * r + j)).toInt ∧ ((md_wh f r v g k).1 (24 * r + j)).toInt < 1000000) ∧ (∀ i, (i < 24 * r ∨ 24 * r + k ≤ i) → (md_wh f r v g k).1 i = g i) ∧ 0 ≤ (md_wh f r v g k).2.toInt ∧ (k ≤ f → vv r (md_wh f r v g k).1 k = 0 ∧ (md_wh f r v g k).2 = v) ∧ (f ≤ k → vv r (md_wh f r v g k).1 k + (md_wh f r v g k).2.toInt * 1000000 ^ k = v.toInt * 1000000 ^ f)
  | 0, _ => ⟨fun j hj => absurd hj (Nat.not_lt_zero j), fun _ _ => rfl, hv, fun _ => ⟨rfl, rfl⟩, fun h => by rw [show f = 0 by omega]; unfold vv md_wh; simp⟩
  | k + 1, hk => by
    obtain ⟨h1, h2, h3, h4, h5⟩ := wh_inv (f := f) (r := r) (g := g) hv k (by omega)
    by_cases hf : k < f
    · obtain ⟨h40, h41⟩ := h4 (by omega)
      have e1 : (md_wh f r v g (k + 1)).1 = vp_updL (md_wh f r v g k).1 (24 * r + k) 0 := by show vp_updL _ _ (if k < f then 0 else _) = _; rw [if_pos hf]
      have e2 : (md_wh f r v g (k + 1)).2 = (md_wh f r v g k).2 := if_pos hf
      rw [e1, e2]
      generalize (md_wh f r v g k).1 = z at *
      generalize (md_wh f r v g k).2 = c at *
      subst h41
      have e0 : (0 : Int64).toInt = 0 := rfl
      refine ⟨fun j hj => ?_, fun i hi => ?_, h3, fun _ => ⟨?_, rfl⟩, fun h => ?_⟩
      · by_cases hjk : j = k
        · subst hjk; rw [up_eq]; decide
        · rw [up_ne _ _ (by omega)]; exact h1 j (by omega)
      · rw [up_ne _ _ (by omega)]; exact h2 i (by omega)
      · rw [vv_up, h40, e0]; simp
      · rw [vv_up, h40, e0, show f = k + 1 by omega]; simp
    · have e1 : (md_wh f r v g (k + 1)).1 = vp_updL (md_wh f r v g k).1 (24 * r + k) (pu_rem (md_wh f r v g k).2 1000000) := by show vp_updL _ _ (if k < f then 0 else _) = _; rw [if_neg hf]
      have e2 : (md_wh f r v g (k + 1)).2 = (md_wh f r v g k).2 / 1000000 := if_neg hf
      have h5 := h5 (by omega)
      rw [e1, e2]
      have er := tI_rem (b := 1000000) h3 (by decide)
      have eq := tI_div (b := 1000000) h3 (by decide)
      rw [e6] at er eq
      generalize (md_wh f r v g k).1 = z at *
      generalize (md_wh f r v g k).2 = c at *
      refine ⟨fun j hj => ?_, fun i hi => ?_, by omega, fun h => by omega, fun _ => ?_⟩
      · by_cases hjk : j = k
        · subst hjk; rw [up_eq, er]; omega
        · rw [up_ne _ _ (by omega)]; exact h1 j (by omega)
      · rw [up_ne _ _ (by omega)]; exact h2 i (by omega)
      · rw [vv_up, er, eq, Int.pow_succ]
        have := Int.mul_ediv_add_emod c.toInt 1000000
        grind
/-- whole: exact where it has room -/
theorem wh_ok {f r : Nat} {v : Int64} {g : Nat → Int64} (hf : f ≤ 24) (hv : 0 ≤ v.toInt) (hb : v.toInt * 1000000 ^ f < 1000000 ^ 24) : ok r (mr_wh f r v g) ∧ fr r g (mr_wh f r v g) ∧ vv r (mr_wh f r v g) 24 = v.toInt * 1000000 ^ f := by
  obtain ⟨h1, h2, h3, -, h5⟩ := wh_inv (f := f) (r := r) (g := g) hv 24 (Nat.le_refl _)
  unfold mr_wh
  rw [ir_eq]
  have ho : ok r (md_wh f r v g 24).1 := h1
  refine ⟨ho, h2, ?_⟩
  have hx := (vv_bd ho 24 (Nat.le_refl _)).1
  have h5 := h5 hf
  generalize (md_wh f r v g 24).2.toInt = c at *
  generalize vv r (md_wh f r v g 24).1 24 = x at *
  generalize v.toInt * 1000000 ^ f = y at *
  have : (1000000 : Int) ^ 24 = 1000000000000000000000000000000000000000000000000000000000000000000000000000000000000000000000000000000000000000000000000000000000000000000000000 := by decide
  omega
theorem vv_z0 {r : Nat} {g : Nat → Int64} : ∀ k, (∀ j, j < k → g (24 * r + j) = 0) → vv r g k = 0
  | 0, _ => rfl
  | k + 1, H => by rw [vv_s, vv_z0 k (fun j hj => H j (by omega)), H k (by omega)]; simp
theorem vv_0z {r : Nat} {g : Nat → Int64} (o : ok r g) : ∀ k, k ≤ 24 → vv r g k = 0 → ∀ j, j < k → g (24 * r + j) = 0
  | 0, _, _, j, hj => absurd hj (Nat.not_lt_zero j)
  | k + 1, hk, h, j, hj => by
    have hb := vv_bd o k (by omega)
    have hd := o k (by omega)
    have hp : (0 : Int) < 1000000 ^ k := Int.pow_pos (by decide)
    have h1 : 0 ≤ (g (24 * r + k)).toInt * 1000000 ^ k := Int.mul_nonneg hd.1 (Int.le_of_lt hp)
    rw [vv_s] at h
    have h2 : (g (24 * r + k)).toInt * 1000000 ^ k = 0 := by omega
    have h3 : (g (24 * r + k)).toInt = 0 := by
      rcases Int.mul_eq_zero.mp h2 with q | q
      · exact q
      · omega
    by_cases hjk : j = k
    · subst hjk; exact Int64.toInt_inj.mp h3
    · exact vv_0z o k (by omega) (by omega) j (by omega)
theorem no_iff {r : Nat} {g : Nat → Int64} : ∀ k, ¬ md_no r g k = 0 ↔ ∀ j, j < k → g (24 * r + j) = 0
  | 0 => ⟨fun _ j hj => absurd hj (Nat.not_lt_zero j), fun _ => by show ¬ (1 : Int32) = 0; decide⟩
  | k + 1 => by
    have ih := no_iff (r := r) (g := g) k
    show ¬ (if md_no r g k = 0 then 0 else if g (24 * r + k) = 0 then 1 else 0) = 0 ↔ _
    by_cases h : md_no r g k = 0
    · rw [if_pos h]
      exact ⟨fun q => absurd rfl q, fun q => absurd h (ih.mpr (fun j hj => q j (by omega)))⟩
    · rw [if_neg h]
      have h1 := ih.mp h
      by_cases h2 : g (24 * r + k) = 0
      · rw [if_pos h2]
        exact ⟨fun _ j hj => by by_cases e : j = k; subst e; exact h2; exact h1 j (by omega), fun _ => by decide⟩
      · rw [if_neg h2]
        exact ⟨fun q => absurd rfl q, fun q => absurd (q k (by omega)) h2⟩
/-- isNothing -/
theorem no_ok {r : Nat} {g : Nat → Int64} (o : ok r g) : ¬ md_no r g 24 = 0 ↔ vv r g 24 = 0 :=
  (no_iff 24).trans ⟨vv_z0 24, vv_0z o 24 (Nat.le_refl _)⟩
theorem ag_iff {a b : Nat} {g : Nat → Int64} (oa : ok a g) (ob : ok b g) : ∀ k, k ≤ 24 → (md_ag a b g k = 1 ↔ vv b g k < vv a g k) ∧ (md_ag a b g k = 0 ↔ vv a g k = vv b g k) ∧ (md_ag a b g k = -1 ↔ vv a g k < vv b g k)
  | 0, _ => by unfold md_ag vv; decide
  | k + 1, hk => by
    have ih := ag_iff oa ob k (by omega)
    have h1 := vv_bd oa k (by omega)
    have h2 := vv_bd ob k (by omega)
    have hp : (0 : Int) < 1000000 ^ k := Int.pow_pos (by decide)
    show ((if g (24 * a + k) = g (24 * b + k) then md_ag a b g k else if g (24 * b + k) < g (24 * a + k) then 1 else -1) = 1 ↔ _) ∧ ((if g (24 * a + k) = g (24 * b + k) then md_ag a b g k else if g (24 * b + k) < g (24 * a + k) then 1 else -1) = 0 ↔ _) ∧ ((if g (24 * a + k) = g (24 * b + k) then md_ag a b g k else if g (24 * b + k) < g (24 * a + k) then 1 else -1) = -1 ↔ _)
    rw [vv_s, vv_s]
    by_cases h : g (24 * a + k) = g (24 * b + k)
    · rw [if_pos h, h]
      refine ⟨ih.1.trans (by omega), ih.2.1.trans (by omega), ih.2.2.trans (by omega)⟩
    · rw [if_neg h]
      have hne : (g (24 * a + k)).toInt ≠ (g (24 * b + k)).toInt := fun q => h (Int64.toInt_inj.mp q)
      by_cases hl : g (24 * b + k) < g (24 * a + k)
      · rw [if_pos hl]
        rw [Int64.lt_iff_toInt_lt] at hl
        have : ((g (24 * b + k)).toInt + 1) * 1000000 ^ k ≤ (g (24 * a + k)).toInt * 1000000 ^ k := Int.mul_le_mul_of_nonneg_right (by omega) (Int.le_of_lt hp)
        rw [Int.add_mul, Int.one_mul] at this
        refine ⟨⟨fun _ => by omega, fun _ => rfl⟩, ⟨fun q => absurd q (by decide), fun q => by omega⟩, ⟨fun q => absurd q (by decide), fun q => by omega⟩⟩
      · rw [if_neg hl]
        rw [Int64.lt_iff_toInt_lt] at hl
        have : ((g (24 * a + k)).toInt + 1) * 1000000 ^ k ≤ (g (24 * b + k)).toInt * 1000000 ^ k := Int.mul_le_mul_of_nonneg_right (by omega) (Int.le_of_lt hp)
        rw [Int.add_mul, Int.one_mul] at this
        refine ⟨⟨fun q => absurd q (by decide), fun q => by omega⟩, ⟨fun q => absurd q (by decide), fun q => by omega⟩, ⟨fun _ => by omega, fun _ => rfl⟩⟩
theorem tv_bd {r : Nat} {g : Nat → Int64} (o : ok r g) : ∀ k, k ≤ 24 → 0 ≤ tv r g k
  | 0, _ => Int.le_refl _
  | k + 1, hk => by
    have := tv_bd o k (by omega)
    have := o (23 - k) (by omega)
    rw [tv_s]; omega
theorem be_inv {r : Nat} {g : Nat → Int64} (o : ok r g) : ∀ k, k ≤ 24 → tv r g k < 2 ^ 63 → (md_be r g k).toInt = tv r g k
  | 0, _, _ => rfl
  | k + 1, hk, hb => by
    have h0 := tv_bd o k (by omega)
    have hd := o (23 - k) (by omega)
    rw [tv_s] at hb ⊢
    have ih := be_inv o k (by omega) (by omega)
    show (md_be r g k * 1000000 + g (24 * r + (23 - k))).toInt = _
    have e1 : (md_be r g k * 1000000).toInt = tv r g k * 1000000 := by rw [tI_mul] <;> rw [e6, ih] <;> omega
    rw [tI_add] <;> rw [e1] <;> omega
/-- before: what stands before the point -/
theorem be_ok {f r : Nat} {g : Nat → Int64} (hf : f ≤ 24) (o : ok r g) (hb : vv r g 24 < 2 ^ 63 * 1000000 ^ f) : (mr_be f r g).toInt = vv r g 24 / 1000000 ^ f := by
  have e := tv_vv r g (24 - f) (by omega)
  rw [show 24 - (24 - f) = f by omega] at e
  have hl := vv_bd o f hf
  have hp : (0 : Int) < 1000000 ^ f := Int.pow_pos (by decide)
  have et : vv r g 24 / 1000000 ^ f = tv r g (24 - f) := by
    rw [← e, Int.add_comm, Int.add_mul_ediv_right _ _ (Int.ne_of_gt hp), Int.ediv_eq_zero_of_lt hl.1 hl.2, Int.zero_add]
  unfold mr_be
  rw [ir_eq, et]
  refine be_inv o _ (by omega) ?_
  rw [← et]
  exact Int.ediv_lt_of_lt_mul hp hb
