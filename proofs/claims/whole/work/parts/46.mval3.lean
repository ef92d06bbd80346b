theorem tv_up {r : Nat} {z : Nat → Int64} {k : Nat} (hk : k < 24) {v : Int64} : tv r (vp_updL z (24 * r + (23 - k)) v) (k + 1) = tv r z k * 1000000 + v.toInt := by
  rw [tv_s, up_eq, tv_cong (h := vp_updL z (24 * r + (23 - k)) v) (g := z) k (by omega) (fun j hj => up_ne z v (by omega))]
theorem by_inv {r : Nat} {q : Int64} {g : Nat → Int64} (o : ok r g) (hm : 0 < q.toInt) (hm2 : q.toInt ≤ 9000000000000) : ∀ k, k ≤ 24 →
    (∀ j, j < k → 0 ≤ ((md_by r q g k).1 (24 * r + (23 - j))).toInt ∧ ((md_by r q g k).1 (24 * r + (23 - j))).toInt < 1000000) ∧ (∀ i, (i < 24 * r + (24 - k) ∨ 24 * r + 24 ≤ i) → (md_by r q g k).1 i = g i) ∧ 0 ≤ (md_by r q g k).2.toInt ∧ (md_by r q g k).2.toInt < q.toInt ∧ tv r g k = tv r (md_by r q g k).1 k * q.toInt + (md_by r q g k).2.toInt
  | 0, _ => ⟨fun j hj => absurd hj (Nat.not_lt_zero j), fun _ _ => rfl, Int.le_refl _, hm, by unfold tv md_by; simp⟩
  | k + 1, hk => by
    obtain ⟨h1, h2, h3, h4, h5⟩ := by_inv o hm hm2 k (by omega)
    have hd := o (23 - k) (by omega)
    have ed : (md_by r q g k).1 (24 * r + (23 - k)) = g (24 * r + (23 - k)) := h2 _ (Or.inl (by omega))
    have ev : (md_bv r (md_by r q g k) k).toInt = (md_by r q g k).2.toInt * 1000000 + (g (24 * r + (23 - k))).toInt ∧ 0 ≤ (md_bv r (md_by r q g k) k).toInt ∧ (md_bv r (md_by r q g k) k).toInt < 1000000 * q.toInt := by
      unfold md_bv
      rw [ed]
      have e1 : ((md_by r q g k).2 * 1000000).toInt = (md_by r q g k).2.toInt * 1000000 := by rw [tI_mul] <;> rw [e6] <;> omega
      have e2 : ((md_by r q g k).2 * 1000000 + g (24 * r + (23 - k))).toInt = (md_by r q g k).2.toInt * 1000000 + (g (24 * r + (23 - k))).toInt := by
        rw [tI_add] <;> rw [e1] <;> omega
      omega
    obtain ⟨ev, ev0, evb⟩ := ev
    have er : (pu_rem (md_bv r (md_by r q g k) k) q).toInt = (md_bv r (md_by r q g k) k).toInt % q.toInt := tI_rem ev0 hm
    have eq : (md_bv r (md_by r q g k) k / q).toInt = (md_bv r (md_by r q g k) k).toInt / q.toInt := tI_div ev0 hm
    have r1 := Int.emod_nonneg (md_bv r (md_by r q g k) k).toInt (Int.ne_of_gt hm)
    have r2 := Int.emod_lt_of_pos (md_bv r (md_by r q g k) k).toInt hm
    have r3 : (md_bv r (md_by r q g k) k).toInt / q.toInt < 1000000 := Int.ediv_lt_of_lt_mul hm evb
    have r4 : 0 ≤ (md_bv r (md_by r q g k) k).toInt / q.toInt := Int.ediv_nonneg ev0 (Int.le_of_lt hm)
    have r5 := Int.mul_ediv_add_emod (md_bv r (md_by r q g k) k).toInt q.toInt
    show (∀ j, j < k + 1 → 0 ≤ (vp_updL (md_by r q g k).1 (24 * r + (23 - k)) (md_bv r (md_by r q g k) k / q) (24 * r + (23 - j))).toInt ∧ (vp_updL (md_by r q g k).1 (24 * r + (23 - k)) (md_bv r (md_by r q g k) k / q) (24 * r + (23 - j))).toInt < 1000000) ∧ (∀ i, (i < 24 * r + (24 - (k + 1)) ∨ 24 * r + 24 ≤ i) → vp_updL (md_by r q g k).1 (24 * r + (23 - k)) (md_bv r (md_by r q g k) k / q) i = g i) ∧ 0 ≤ (pu_rem (md_bv r (md_by r q g k) k) q).toInt ∧ (pu_rem (md_bv r (md_by r q g k) k) q).toInt < q.toInt ∧ tv r g (k + 1) = tv r (vp_updL (md_by r q g k).1 (24 * r + (23 - k)) (md_bv r (md_by r q g k) k / q)) (k + 1) * q.toInt + (pu_rem (md_bv r (md_by r q g k) k) q).toInt
    generalize md_bv r (md_by r q g k) k = v at *
    generalize (md_by r q g k).1 = z at *
    generalize (md_by r q g k).2 = c at *
    refine ⟨fun j hj => ?_, fun i hi => ?_, by omega, by omega, ?_⟩
    · by_cases hjk : j = k
      · subst hjk; rw [up_eq, eq]; omega
      · rw [up_ne _ _ (by omega)]; exact h1 j (by omega)
    · rw [up_ne _ _ (by omega)]; exact h2 i (by omega)
    · rw [tv_up (by omega), tv_s, er, eq]
      generalize v.toInt / q.toInt = a at *
      generalize v.toInt % q.toInt = b at *
      grind
/-- by: rounded down -/
theorem by_ok {r : Nat} {q : Int64} {g : Nat → Int64} (o : ok r g) (hm : 0 < q.toInt) (hm2 : q.toInt ≤ 9000000000000) : ok r (mr_by r q g) ∧ fr r g (mr_by r q g) ∧ vv r (mr_by r q g) 24 = vv r g 24 / q.toInt := by
  obtain ⟨h1, h2, h3, h4, h5⟩ := by_inv o hm hm2 24 (Nat.le_refl _)
  unfold mr_by
  rw [ir_eq]
  refine ⟨fun k hk => ?_, fun i hi => h2 i (by omega), ?_⟩
  · have := h1 (23 - k) (by omega)
    rw [show 23 - (23 - k) = k by omega] at this
    exact this
  · rw [tv_24, tv_24] at h5
    rw [h5, Int.add_comm, Int.add_mul_ediv_right _ _ (Int.ne_of_gt hm), Int.ediv_eq_zero_of_lt h3 h4, Int.zero_add]
theorem cp_inv {r a : Nat} {g : Nat → Int64} (ne : a ≠ r) : ∀ k, k ≤ 24 → (∀ j, j < k → md_cp r a g k (24 * r + j) = g (24 * a + j)) ∧ (∀ i, (i < 24 * r ∨ 24 * r + k ≤ i) → md_cp r a g k i = g i)
  | 0, _ => ⟨fun j hj => absurd hj (Nat.not_lt_zero j), fun _ _ => rfl⟩
  | k + 1, hk => by
    obtain ⟨h1, h2⟩ := cp_inv (g := g) ne k (by omega)
    have ed : md_cp r a g k (24 * a + k) = g (24 * a + k) := h2 _ (by omega)
    show (∀ j, j < k + 1 → vp_updL (md_cp r a g k) (24 * r + k) (md_cp r a g k (24 * a + k)) (24 * r + j) = g (24 * a + j)) ∧ (∀ i, (i < 24 * r ∨ 24 * r + (k + 1) ≤ i) → vp_updL (md_cp r a g k) (24 * r + k) (md_cp r a g k (24 * a + k)) i = g i)
    rw [ed]
    refine ⟨fun j hj => ?_, fun i hi => ?_⟩
    · by_cases hjk : j = k
      · subst hjk; rw [up_eq]
      · rw [up_ne _ _ (by omega)]; exact h1 j (by omega)
    · rw [up_ne _ _ (by omega)]; exact h2 i (by omega)
theorem vv_cp {r a : Nat} {g h : Nat → Int64} : ∀ k, (∀ j, j < k → h (24 * r + j) = g (24 * a + j)) → vv r h k = vv a g k
  | 0, _ => rfl
  | k + 1, H => by rw [vv_s, vv_s, vv_cp k (fun j hj => H j (by omega)), H k (by omega)]
/-- copy -/
theorem cp_ok {r a : Nat} {g : Nat → Int64} (ne : a ≠ r) (o : ok a g) : ok r (mr_cp r a g) ∧ fr r g (mr_cp r a g) ∧ vv r (mr_cp r a g) 24 = vv a g 24 := by
  obtain ⟨h1, h2⟩ := cp_inv (g := g) ne 24 (Nat.le_refl _)
  unfold mr_cp
  rw [ir_eq]
  exact ⟨fun k hk => by rw [h1 k hk]; exact o k hk, h2, vv_cp 24 h1⟩
theorem add_inv {r a : Nat} {g : Nat → Int64} (ne : a ≠ r) (o : ok r g) (oa : ok a g) : ∀ k, k ≤ 24 →
    (∀ j, j < k → 0 ≤ ((md_add r a g k).1 (24 * r + j)).toInt ∧ ((md_add r a g k).1 (24 * r + j)).toInt < 1000000) ∧ (∀ i, (i < 24 * r ∨ 24 * r + k ≤ i) → (md_add r a g k).1 i = g i) ∧ 0 ≤ (md_add r a g k).2.toInt ∧ (md_add r a g k).2.toInt ≤ 1 ∧ vv r (md_add r a g k).1 k + (md_add r a g k).2.toInt * 1000000 ^ k = vv r g k + vv a g k
  | 0, _ => ⟨fun j hj => absurd hj (Nat.not_lt_zero j), fun _ _ => rfl, Int.le_refl _, show (0 : Int) ≤ 1 by decide, by unfold vv md_add; simp⟩
  | k + 1, hk => by
    obtain ⟨h1, h2, h3, h4, h5⟩ := add_inv ne o oa k (by omega)
    have hd := o k (by omega)
    have hda := oa k (by omega)
    have ed : (md_add r a g k).1 (24 * r + k) = g (24 * r + k) := h2 _ (by omega)
    have eda : (md_add r a g k).1 (24 * a + k) = g (24 * a + k) := h2 _ (by omega)
    have ev : (md_av r a (md_add r a g k) k).toInt = (g (24 * r + k)).toInt + (g (24 * a + k)).toInt + (md_add r a g k).2.toInt := by
      unfold md_av
      rw [ed, eda]
      have e1 : (g (24 * r + k) + g (24 * a + k)).toInt = (g (24 * r + k)).toInt + (g (24 * a + k)).toInt := tI_add (by omega) (by omega)
      rw [tI_add] <;> rw [e1] <;> omega
    have eo : (md_ao (md_av r a (md_add r a g k) k)).toInt = if (md_av r a (md_add r a g k) k).toInt < 1000000 then 0 else 1 := by
      unfold md_ao
      have : (md_av r a (md_add r a g k) k < 1000000) ↔ (md_av r a (md_add r a g k) k).toInt < 1000000 := by rw [Int64.lt_iff_toInt_lt, e6]
      by_cases h : (md_av r a (md_add r a g k) k).toInt < 1000000
      · rw [if_pos h, if_pos (this.mpr h)]; rfl
      · rw [if_neg h, if_neg (fun q => h (this.mp q))]; rfl
    have ew : (md_av r a (md_add r a g k) k - md_ao (md_av r a (md_add r a g k) k) * 1000000).toInt = (md_av r a (md_add r a g k) k).toInt - (md_ao (md_av r a (md_add r a g k) k)).toInt * 1000000 := by
      have e1 : (md_ao (md_av r a (md_add r a g k) k) * 1000000).toInt = (md_ao (md_av r a (md_add r a g k) k)).toInt * 1000000 := by
        rw [tI_mul] <;> rw [e6, eo] <;> split <;> omega
      rw [tI_sub] <;> rw [e1, eo] <;> split <;> omega
    show (∀ j, j < k + 1 → 0 ≤ (vp_updL (md_add r a g k).1 (24 * r + k) (md_av r a (md_add r a g k) k - md_ao (md_av r a (md_add r a g k) k) * 1000000) (24 * r + j)).toInt ∧ (vp_updL (md_add r a g k).1 (24 * r + k) (md_av r a (md_add r a g k) k - md_ao (md_av r a (md_add r a g k) k) * 1000000) (24 * r + j)).toInt < 1000000) ∧ (∀ i, (i < 24 * r ∨ 24 * r + (k + 1) ≤ i) → vp_updL (md_add r a g k).1 (24 * r + k) (md_av r a (md_add r a g k) k - md_ao (md_av r a (md_add r a g k) k) * 1000000) i = g i) ∧ 0 ≤ (md_ao (md_av r a (md_add r a g k) k)).toInt ∧ (md_ao (md_av r a (md_add r a g k) k)).toInt ≤ 1 ∧ vv r (vp_updL (md_add r a g k).1 (24 * r + k) (md_av r a (md_add r a g k) k - md_ao (md_av r a (md_add r a g k) k) * 1000000)) (k + 1) + (md_ao (md_av r a (md_add r a g k) k)).toInt * 1000000 ^ (k + 1) = vv r g (k + 1) + vv a g (k + 1)
    generalize md_ao (md_av r a (md_add r a g k) k) = w at *
    generalize md_av r a (md_add r a g k) k = v at *
    generalize (md_add r a g k).1 = z at *
    generalize (md_add r a g k).2 = c at *
    refine ⟨fun j hj => ?_, fun i hi => ?_, by split at eo <;> omega, by split at eo <;> omega, ?_⟩
    · by_cases hjk : j = k
      · subst hjk; rw [up_eq, ew]; split at eo <;> omega
      · rw [up_ne _ _ (by omega)]; exact h1 j (by omega)
    · rw [up_ne _ _ (by omega)]; exact h2 i (by omega)
    · rw [vv_up, vv_s, vv_s, ew, Int.pow_succ]
      grind
/-- add: exact where the sum has room -/
theorem add_ok {r a : Nat} {g : Nat → Int64} (ne : a ≠ r) (o : ok r g) (oa : ok a g) : ok r (mr_add r a g) ∧ fr r g (mr_add r a g) ∧ (vv r g 24 + vv a g 24 < 1000000 ^ 24 → vv r (mr_add r a g) 24 = vv r g 24 + vv a g 24) := by
  obtain ⟨h1, h2, h3, h4, h5⟩ := add_inv ne o oa 24 (Nat.le_refl _)
  unfold mr_add
  rw [ir_eq]
  have ho : ok r (md_add r a g 24).1 := h1
  refine ⟨ho, h2, fun hb => ?_⟩
  have hv := (vv_bd ho 24 (Nat.le_refl _)).1
  generalize (md_add r a g 24).2.toInt = c at *
  generalize vv r (md_add r a g 24).1 24 = x at *
  generalize (1000000 : Int) ^ 24 = P at *
  rcases (show c = 0 ∨ c = 1 by omega) with rfl | rfl
  · omega
  · omega
theorem les_inv {r a : Nat} {g : Nat → Int64} (ne : a ≠ r) (o : ok r g) (oa : ok a g) : ∀ k, k ≤ 24 →
    (∀ j, j < k → 0 ≤ ((md_les r a g k).1 (24 * r + j)).toInt ∧ ((md_les r a g k).1 (24 * r + j)).toInt < 1000000) ∧ (∀ i, (i < 24 * r ∨ 24 * r + k ≤ i) → (md_les r a g k).1 i = g i) ∧ 0 ≤ (md_les r a g k).2.toInt ∧ (md_les r a g k).2.toInt ≤ 1 ∧ vv r (md_les r a g k).1 k = vv r g k - vv a g k + (md_les r a g k).2.toInt * 1000000 ^ k
  | 0, _ => ⟨fun j hj => absurd hj (Nat.not_lt_zero j), fun _ _ => rfl, Int.le_refl _, show (0 : Int) ≤ 1 by decide, by unfold vv md_les; simp⟩
  | k + 1, hk => by
    obtain ⟨h1, h2, h3, h4, h5⟩ := les_inv ne o oa k (by omega)
    have hd := o k (by omega)
    have hda := oa k (by omega)
    have ed : (md_les r a g k).1 (24 * r + k) = g (24 * r + k) := h2 _ (by omega)
    have eda : (md_les r a g k).1 (24 * a + k) = g (24 * a + k) := h2 _ (by omega)
    have ev : (md_lv r a (md_les r a g k) k).toInt = (g (24 * r + k)).toInt - (g (24 * a + k)).toInt - (md_les r a g k).2.toInt := by
      unfold md_lv
      rw [ed, eda]
      have e1 : (g (24 * r + k) - g (24 * a + k)).toInt = (g (24 * r + k)).toInt - (g (24 * a + k)).toInt := tI_sub (by omega) (by omega)
      rw [tI_sub] <;> rw [e1] <;> omega
    have eo : (md_lo (md_lv r a (md_les r a g k) k)).toInt = if 0 ≤ (md_lv r a (md_les r a g k) k).toInt then 0 else 1 := by
      unfold md_lo
      have : (0 ≤ md_lv r a (md_les r a g k) k) ↔ 0 ≤ (md_lv r a (md_les r a g k) k).toInt := by rw [Int64.le_iff_toInt_le]; rfl
      by_cases h : 0 ≤ (md_lv r a (md_les r a g k) k).toInt
      · rw [if_pos h, if_pos (this.mpr h)]; rfl
      · rw [if_neg h, if_neg (fun q => h (this.mp q))]; rfl
    have ew : (md_lv r a (md_les r a g k) k + md_lo (md_lv r a (md_les r a g k) k) * 1000000).toInt = (md_lv r a (md_les r a g k) k).toInt + (md_lo (md_lv r a (md_les r a g k) k)).toInt * 1000000 := by
      have e1 : (md_lo (md_lv r a (md_les r a g k) k) * 1000000).toInt = (md_lo (md_lv r a (md_les r a g k) k)).toInt * 1000000 := by
        rw [tI_mul] <;> rw [e6, eo] <;> split <;> omega
      rw [tI_add] <;> rw [e1, eo] <;> split <;> omega
    show (∀ j, j < k + 1 → 0 ≤ (vp_updL (md_les r a g k).1 (24 * r + k) (md_lv r a (md_les r a g k) k + md_lo (md_lv r a (md_les r a g k) k) * 1000000) (24 * r + j)).toInt ∧ (vp_updL (md_les r a g k).1 (24 * r + k) (md_lv r a (md_les r a g k) k + md_lo (md_lv r a (md_les r a g k) k) * 1000000) (24 * r + j)).toInt < 1000000) ∧ (∀ i, (i < 24 * r ∨ 24 * r + (k + 1) ≤ i) → vp_updL (md_les r a g k).1 (24 * r + k) (md_lv r a (md_les r a g k) k + md_lo (md_lv r a (md_les r a g k) k) * 1000000) i = g i) ∧ 0 ≤ (md_lo (md_lv r a (md_les r a g k) k)).toInt ∧ (md_lo (md_lv r a (md_les r a g k) k)).toInt ≤ 1 ∧ vv r (vp_updL (md_les r a g k).1 (24 * r + k) (md_lv r a (md_les r a g k) k + md_lo (md_lv r a (md_les r a g k) k) * 1000000)) (k + 1) = vv r g (k + 1) - vv a g (k + 1) + (md_lo (md_lv r a (md_les r a g k) k)).toInt * 1000000 ^ (k + 1)
    generalize md_lo (md_lv r a (md_les r a g k) k) = w at *
    generalize md_lv r a (md_les r a g k) k = v at *
    generalize (md_les r a g k).1 = z at *
    generalize (md_les r a g k).2 = c at *
    refine ⟨fun j hj => ?_, fun i hi => ?_, by split at eo <;> omega, by split at eo <;> omega, ?_⟩
    · by_cases hjk : j = k
      · subst hjk; rw [up_eq, ew]; split at eo <;> omega
      · rw [up_ne _ _ (by omega)]; exact h1 j (by omega)
    · rw [up_ne _ _ (by omega)]; exact h2 i (by omega)
    · rw [vv_up, vv_s, vv_s, ew, Int.pow_succ]
      grind
/-- less: exact where nothing is borrowed -/
theorem les_ok {r a : Nat} {g : Nat → Int64} (ne : a ≠ r) (o : ok r g) (oa : ok a g) : ok r (mr_les r a g) ∧ fr r g (mr_les r a g) ∧ (vv a g 24 ≤ vv r g 24 → vv r (mr_les r a g) 24 = vv r g 24 - vv a g 24) := by
  obtain ⟨h1, h2, h3, h4, h5⟩ := les_inv ne o oa 24 (Nat.le_refl _)
  unfold mr_les
  rw [ir_eq]
  have ho : ok r (md_les r a g 24).1 := h1
  refine ⟨ho, h2, fun hb => ?_⟩
  have hv := (vv_bd ho 24 (Nat.le_refl _)).2
  generalize (md_les r a g 24).2.toInt = c at *
  generalize vv r (md_les r a g 24).1 24 = x at *
  generalize (1000000 : Int) ^ 24 = P at *
  rcases (show c = 0 ∨ c = 1 by omega) with rfl | rfl
  · omega
  · omega
