/-! dew: the reference's search -/
theorem dws_find {pf : Int32 → Int64} {q : Int32} {r : Int → Prop} (hm : ∀ m m', m' ≤ m → -4000 ≤ m' → m ≤ 10000 → r m → r m') (hr : ∀ m : Int32, -4000 ≤ m.toInt → m.toInt ≤ 10000 → (q.toInt64 < pf m ↔ ¬ r m.toInt)) : ∀ (n : Nat) (lo hi : Int32), -4000 ≤ lo.toInt → hi.toInt ≤ 10001 → lo.toInt < hi.toInt → hi.toInt - lo.toInt ≤ 2 ^ n → r lo.toInt → (∀ m, hi.toInt ≤ m → m ≤ 10000 → ¬ r m) →
    -4000 ≤ (dws pf q n lo hi).toInt ∧ (dws pf q n lo hi).toInt ≤ 10000 ∧ r (dws pf q n lo hi).toInt ∧ ∀ m, (dws pf q n lo hi).toInt < m → m ≤ 10000 → ¬ r m
  | 0, lo, hi, h1, h2, h3, h4, h5, h6 => by
    have e : (2 : Int) ^ 0 = 1 := rfl
    rw [e] at h4
    show -4000 ≤ lo.toInt ∧ lo.toInt ≤ 10000 ∧ r lo.toInt ∧ ∀ m, lo.toInt < m → m ≤ 10000 → ¬ r m
    exact ⟨h1, by omega, h5, fun m a b => h6 m (by omega) b⟩
  | n + 1, lo, hi, h1, h2, h3, h4, h5, h6 => by
    obtain ⟨d1, d2⟩ := dm_ok h1 h2 h3
    have E : dws pf q (n + 1) lo hi = if hi - lo ≤ 1 then lo else if q.toInt64 < pf (dm lo hi) then dws pf q n lo (dm lo hi) else dws pf q n (dm lo hi) hi := rfl
    rw [E]
    have e1 : (1 : Int32).toInt = 1 := rfl
    have pw : (2 : Int) ^ (n + 1) = 2 ^ n * 2 := Int.pow_succ 2 n
    rw [pw] at h4
    by_cases c : hi - lo ≤ 1
    · rw [if_pos c]
      have c' := (i32_le _ _).mp c
      rw [d1, e1] at c'
      exact ⟨h1, by omega, h5, fun m a b => h6 m (by omega) b⟩
    · rw [if_neg c]
      have c' : ¬ hi.toInt - lo.toInt ≤ 1 := fun w => c ((i32_le _ _).mpr (by rw [d1, e1]; exact w))
      have k := hr (dm lo hi) (by omega) (by omega)
      by_cases w : q.toInt64 < pf (dm lo hi)
      · rw [if_pos w]
        have nr := k.mp w
        exact dws_find hm hr n lo (dm lo hi) h1 (by omega) (by omega) (by omega) h5 (fun m a b hx => nr (hm m _ a (by omega) b hx))
      · rw [if_neg w]
        have yr : r (dm lo hi).toInt := by
          by_cases t : r (dm lo hi).toInt
          · exact t
          · exact absurd (k.mpr t) w
        exact dws_find hm hr n (dm lo hi) hi (by omega) h2 (by omega) (by omega) yr h6
