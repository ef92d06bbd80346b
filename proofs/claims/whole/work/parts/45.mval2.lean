/-! what the registers' methods do to what they hold -/
def fr (r : Nat) (g h : Nat → Int64) : Prop := ∀ i, (i < 24 * r ∨ 24 * r + 24 ≤ i) → h i = g i
theorem fr_ok {r s : Nat} {g h : Nat → Int64} (H : fr r g h) (ne : s ≠ r) (o : ok s g) : ok s h := ok_cong (fun j hj => H _ (by omega)) o
theorem fr_vv {r s : Nat} {g h : Nat → Int64} (H : fr r g h) (ne : s ≠ r) : vv s h 24 = vv s g 24 := vv_cong 24 (fun j hj => H _ (by omega))
theorem fr_tr {r : Nat} {g h k : Nat → Int64} (H : fr r g h) (K : fr r h k) : fr r g k := fun i hi => (K i hi).trans (H i hi)
theorem e6 : (1000000 : Int64).toInt = 1000000 := rfl
theorem vv_up {r : Nat} {z : Nat → Int64} {k : Nat} {v : Int64} : vv r (vp_updL z (24 * r + k) v) (k + 1) = vv r z k + v.toInt * 1000000 ^ k := by
  rw [vv_s, up_eq, vv_cong (h := vp_updL z (24 * r + k) v) (g := z) k (fun j hj => up_ne z v (by omega))]
theorem tim_inv {r : Nat} {m : Int64} {g : Nat → Int64} (o : ok r g) (hm : 0 ≤ m.toInt) (hm2 : m.toInt ≤ 1000000000000) : ∀ k, k ≤ 24 →
    (∀ j, j < k → 0 ≤ ((md_tim r m g k).1 (24 * r + j)).toInt ∧ ((md_tim r m g k).1 (24 * r + j)).toInt < 1000000) ∧ (∀ i, (i < 24 * r ∨ 24 * r + k ≤ i) → (md_tim r m g k).1 i = g i) ∧ 0 ≤ (md_tim r m g k).2.toInt ∧ (md_tim r m g k).2.toInt ≤ m.toInt ∧ vv r (md_tim r m g k).1 k + (md_tim r m g k).2.toInt * 1000000 ^ k = vv r g k * m.toInt
  | 0, _ => ⟨fun j hj => absurd hj (Nat.not_lt_zero j), fun _ _ => rfl, Int.le_refl _, hm, by unfold vv md_tim; simp⟩
  | k + 1, hk => by
    obtain ⟨h1, h2, h3, h4, h5⟩ := tim_inv o hm hm2 k (by omega)
    have hd := o k (by omega)
    have ed : (md_tim r m g k).1 (24 * r + k) = g (24 * r + k) := h2 _ (Or.inr (Nat.le_refl _))
    have ev : (md_tv r m (md_tim r m g k) k).toInt = (g (24 * r + k)).toInt * m.toInt + (md_tim r m g k).2.toInt ∧ 0 ≤ (md_tv r m (md_tim r m g k) k).toInt ∧ (md_tv r m (md_tim r m g k) k).toInt < 1000000 * (m.toInt + 1) := by
      unfold md_tv
      rw [ed]
      have p1 : 0 ≤ (g (24 * r + k)).toInt * m.toInt := Int.mul_nonneg hd.1 hm
      have p2 : (g (24 * r + k)).toInt * m.toInt ≤ 999999 * m.toInt := Int.mul_le_mul_of_nonneg_right (by omega) hm
      have e1 : (g (24 * r + k) * m).toInt = (g (24 * r + k)).toInt * m.toInt := tI_mul (by omega) (by omega)
      have e2 : (g (24 * r + k) * m + (md_tim r m g k).2).toInt = (g (24 * r + k)).toInt * m.toInt + (md_tim r m g k).2.toInt := by
        rw [tI_add] <;> rw [e1] <;> omega
      omega
    obtain ⟨ev, ev0, evb⟩ := ev
    have er : (pu_rem (md_tv r m (md_tim r m g k) k) 1000000).toInt = (md_tv r m (md_tim r m g k) k).toInt % 1000000 := tI_rem ev0 (by decide)
    have eq : (md_tv r m (md_tim r m g k) k / 1000000).toInt = (md_tv r m (md_tim r m g k) k).toInt / 1000000 := tI_div ev0 (by decide)
    show (∀ j, j < k + 1 → 0 ≤ (vp_updL (md_tim r m g k).1 (24 * r + k) (pu_rem (md_tv r m (md_tim r m g k) k) 1000000) (24 * r + j)).toInt ∧ (vp_updL (md_tim r m g k).1 (24 * r + k) (pu_rem (md_tv r m (md_tim r m g k) k) 1000000) (24 * r + j)).toInt < 1000000) ∧ (∀ i, (i < 24 * r ∨ 24 * r + (k + 1) ≤ i) → vp_updL (md_tim r m g k).1 (24 * r + k) (pu_rem (md_tv r m (md_tim r m g k) k) 1000000) i = g i) ∧ 0 ≤ (md_tv r m (md_tim r m g k) k / 1000000).toInt ∧ (md_tv r m (md_tim r m g k) k / 1000000).toInt ≤ m.toInt ∧ vv r (vp_updL (md_tim r m g k).1 (24 * r + k) (pu_rem (md_tv r m (md_tim r m g k) k) 1000000)) (k + 1) + (md_tv r m (md_tim r m g k) k / 1000000).toInt * 1000000 ^ (k + 1) = vv r g (k + 1) * m.toInt
    generalize md_tv r m (md_tim r m g k) k = v at *
    generalize (md_tim r m g k).1 = z at *
    generalize (md_tim r m g k).2 = c at *
    refine ⟨fun j hj => ?_, fun i hi => ?_, by omega, by omega, ?_⟩
    · by_cases hjk : j = k
      · subst hjk; rw [up_eq, er]; omega
      · rw [up_ne _ _ (by omega)]; exact h1 j (by omega)
    · rw [up_ne _ _ (by omega)]; exact h2 i (by omega)
    · rw [vv_up, vv_s, er, eq, Int.pow_succ]
      have := Int.mul_ediv_add_emod v.toInt 1000000
      grind
/-- times: exact where the product has room -/
theorem tim_ok {r : Nat} {m : Int64} {g : Nat → Int64} (o : ok r g) (hm : 0 ≤ m.toInt) (hm2 : m.toInt ≤ 1000000000000) : ok r (mr_tim r m g) ∧ fr r g (mr_tim r m g) ∧ (vv r g 24 * m.toInt < 1000000 ^ 24 → vv r (mr_tim r m g) 24 = vv r g 24 * m.toInt) := by
  obtain ⟨h1, h2, h3, h4, h5⟩ := tim_inv o hm hm2 24 (Nat.le_refl _)
  unfold mr_tim
  rw [ir_eq]
  have ho : ok r (md_tim r m g 24).1 := h1
  refine ⟨ho, h2, fun hb => ?_⟩
  have hv := (vv_bd ho 24 (Nat.le_refl _)).1
  generalize (md_tim r m g 24).2.toInt = c at *
  generalize vv r (md_tim r m g 24).1 24 = a at *
  generalize vv r g 24 * m.toInt = b at *
  have : (1000000 : Int) ^ 24 = 1000000000000000000000000000000000000000000000000000000000000000000000000000000000000000000000000000000000000000000000000000000000000000000000000 := by decide
  omega
