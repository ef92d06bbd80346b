/-! what the law compares -/
theorem t64_le {a b : Int32} : a.toInt64 ≤ b.toInt64 ↔ a ≤ b := by rw [i64_le, i32_le, Int32.toInt_toInt64, Int32.toInt_toInt64]
theorem t64_lt {a b : Int32} : a.toInt64 < b.toInt64 ↔ a < b := by rw [i64_lt, i32_lt, Int32.toInt_toInt64, Int32.toInt_toInt64]
theorem rg_of {x : Int32} {lo hi : Int64} {lo' hi' : Int32} (e1 : lo = lo'.toInt64) (e2 : hi = hi'.toInt64) (h : lo ≤ x.toInt64 ∧ x.toInt64 ≤ hi) : ¬ x < lo' ∧ x ≤ hi' := by
  subst e1; subst e2
  exact ⟨Int32.not_lt.mpr (t64_le.mp h.1), t64_le.mp h.2⟩
theorem ro_of {x : Int32} {lo hi : Int64} {lo' hi' : Int32} (e1 : lo = lo'.toInt64) (e2 : hi = hi'.toInt64) (h : x.toInt64 < lo ∨ hi < x.toInt64) : x < lo' ∨ hi' < x := by
  subst e1; subst e2
  exact h.imp t64_lt.mp t64_lt.mp
theorem th3_0 {x lo hi : Int32} (h : ¬ x < lo ∧ x ≤ hi) : (if x < lo then (1 : Int32) else if x ≤ hi then 0 else 1) = 0 := (if_neg h.1).trans (if_pos h.2)
theorem th3_1 {x lo hi : Int32} (h : x < lo ∨ hi < x) : (if x < lo then (1 : Int32) else if x ≤ hi then 0 else 1) = 1 := by
  by_cases q : x < lo
  · exact if_pos q
  · rcases h with h | h
    · exact absurd h q
    · exact (if_neg q).trans (if_neg (Int32.not_le.mpr h))
theorem th_pw0 {x : Int32} (h : -20000000 ≤ x.toInt64 ∧ x.toInt64 ≤ 20000000) : th_pw x = 0 := th3_0 (rg_of (lo' := -20000000) (hi' := 20000000) (by decide) (by decide) h)
theorem th_pw1 {x : Int32} (h : x.toInt64 < -20000000 ∨ 20000000 < x.toInt64) : th_pw x = 1 := th3_1 (ro_of (lo' := -20000000) (hi' := 20000000) (by decide) (by decide) h)
theorem th_wv0 {x : Int32} (h : -100000000 ≤ x.toInt64 ∧ x.toInt64 ≤ 100000000) : th_wv x = 0 := th3_0 (rg_of (lo' := -100000000) (hi' := 100000000) (by decide) (by decide) h)
theorem th_wv1 {x : Int32} (h : x.toInt64 < -100000000 ∨ 100000000 < x.toInt64) : th_wv x = 1 := th3_1 (ro_of (lo' := -100000000) (hi' := 100000000) (by decide) (by decide) h)
theorem th_lg0 {v : Int64} (h : v ≤ 1000000000000) : th_lg v = 0 := if_pos h
theorem th_lg00 {v : Int64} (h : v ≤ 0) : th_lg v = 0 := if_pos ((i64_le _ _).mpr (by have := (i64_le _ _).mp h; have e : (0 : Int64).toInt = 0 := rfl; have e2 : (1000000000000 : Int64).toInt = 1000000000000 := rfl; omega))
theorem th_lg1 {v : Int64} (h : 1000000000000 < v) : th_lg v = 1 := if_neg (Int64.not_le.mpr h)
theorem th_an0 {y x : Int32} (h1 : -1000000 ≤ y.toInt64 ∧ y.toInt64 ≤ 1000000) (h2 : -1000000 ≤ x.toInt64 ∧ x.toInt64 ≤ 1000000) : th_an y x = 0 := by
  have a := rg_of (lo' := -1000000) (hi' := 1000000) (by decide) (by decide) h1
  have b := rg_of (lo' := -1000000) (hi' := 1000000) (by decide) (by decide) h2
  exact (if_neg a.1).trans ((if_neg (Int32.not_lt.mpr a.2)).trans ((if_neg b.1).trans (if_pos b.2)))
theorem th_an1 {y x : Int32} (h : (y.toInt64 < -1000000 ∨ 1000000 < y.toInt64) ∨ (x.toInt64 < -1000000 ∨ 1000000 < x.toInt64)) : th_an y x = 1 := by
  unfold th_an
  by_cases q1 : y < -1000000
  · exact if_pos q1
  · rw [if_neg q1]
    by_cases q2 : 1000000 < y
    · exact if_pos q2
    · rw [if_neg q2]
      rcases h with h | h
      · rcases ro_of (lo' := -1000000) (hi' := 1000000) (by decide) (by decide) h with h | h
        · exact absurd h q1
        · exact absurd h q2
      · by_cases q3 : x < -1000000
        · exact if_pos q3
        · rw [if_neg q3]
          rcases ro_of (lo' := -1000000) (hi' := 1000000) (by decide) (by decide) h with h | h
          · exact absurd h q3
          · exact if_neg (Int32.not_le.mpr h)
theorem th_dp0 {t h : Int32} (h1 : -4000 ≤ t.toInt64 ∧ t.toInt64 ≤ 10000) (h2 : 0 ≤ h.toInt64 ∧ h.toInt64 ≤ 10000) : th_dp t h = 0 := by
  have a := rg_of (lo' := -4000) (hi' := 10000) (by decide) (by decide) h1
  have b := rg_of (lo' := 0) (hi' := 10000) (by decide) (by decide) h2
  have w : is_wm t = 1 := (if_neg a.1).trans (if_neg (Int32.not_lt.mpr a.2))
  exact (if_neg (by rw [w]; decide)).trans ((if_neg b.1).trans (if_pos b.2))
theorem th_dp1 {t h : Int32} (h9 : (t.toInt64 < -4000 ∨ 10000 < t.toInt64) ∨ (h.toInt64 < 0 ∨ 10000 < h.toInt64)) : th_dp t h = 1 := by
  unfold th_dp
  by_cases q1 : is_wm t = 0
  · exact if_pos q1
  · rw [if_neg q1]
    rcases h9 with h9 | h9
    · refine absurd ?_ q1
      rcases ro_of (lo' := -4000) (hi' := 10000) (by decide) (by decide) h9 with q | q
      · exact if_pos q
      · unfold is_wm
        by_cases q2 : t < -4000
        · exact if_pos q2
        · exact (if_neg q2).trans (if_pos q)
    · exact th3_1 (ro_of (lo' := 0) (hi' := 10000) (by decide) (by decide) h9)
theorem th_dw0 {q : Int32} (h : 0 ≤ q.toInt64 ∧ q.toInt64 ≤ 1000000000) : th_dw q = 0 := th3_0 (rg_of (lo' := 0) (hi' := 1000000000) (by decide) (by decide) h)
theorem th_dw1 {q : Int32} (h : q.toInt64 < 0 ∨ 1000000000 < q.toInt64) : th_dw q = 1 := th3_1 (ro_of (lo' := 0) (hi' := 1000000000) (by decide) (by decide) h)
theorem th_rt0 {v : Int64} {k : Int32} (h1 : 0 ≤ v ∧ v ≤ 1000000000000) (h2 : 2 ≤ k.toInt64 ∧ k.toInt64 ≤ 5) : th_rt v k = 0 := by
  have b := rg_of (lo' := 2) (hi' := 5) (by decide) (by decide) h2
  exact (if_neg (Int64.not_lt.mpr h1.1)).trans ((if_neg (Int64.not_lt.mpr h1.2)).trans ((if_neg b.1).trans (if_pos b.2)))
theorem th_rt1 {v : Int64} {k : Int32} (h : (v < 0 ∨ 1000000000000 < v) ∨ (k.toInt64 < 2 ∨ 5 < k.toInt64)) : th_rt v k = 1 := by
  unfold th_rt
  by_cases q1 : v < 0
  · exact if_pos q1
  · rw [if_neg q1]
    by_cases q2 : 1000000000000 < v
    · exact if_pos q2
    · rw [if_neg q2]
      rcases h with h | h
      · rcases h with h | h
        · exact absurd h q1
        · exact absurd h q2
      · exact th3_1 (ro_of (lo' := 2) (hi' := 5) (by decide) (by decide) h)
/-! equalities that the law asks of the two sides -/
def EQ_pw : Prop := ∀ (x : Int32) (u : rk_U) (z : S2), (-20000000 ≤ x.toInt64 ∧ x.toInt64 ≤ 20000000) → fn_r 1000000000 (rk_raise x.toInt64 1000000 u) = vl_pw x z
def EQ_lg : Prop := ∀ (v : Int64) (u : rk_U) (z : S2), (0 < v ∧ v ≤ 1000000000000) → fn_r 1000000000 (rk_log v 1000000 u) = vl_lg v z
def EQ_sn : Prop := ∀ (x : Int32) (u : rk_U) (z : S2), (-100000000 ≤ x.toInt64 ∧ x.toInt64 ≤ 100000000) → fn_r 1000000000 (rk_swing (pu_abl x.toInt64) (if 0 ≤ x then 0 else 2) u) = vl_wv x 0 z
def EQ_cs : Prop := ∀ (x : Int32) (u : rk_U) (z : S2), (-100000000 ≤ x.toInt64 ∧ x.toInt64 ≤ 100000000) → fn_r 1000000000 (rk_swing (pu_abl x.toInt64) 1 u) = vl_wv x 1 z
def EQ_an : Prop := ∀ (y x : Int32) (u : rk_U) (g : Nat → Int64), ((-1000000 ≤ y.toInt64 ∧ y.toInt64 ≤ 1000000) ∧ (-1000000 ≤ x.toInt64 ∧ x.toInt64 ≤ 1000000)) → ¬ (x = 0 ∧ y = 0) → fn_r 1000000000 (rk_point y x u) = vl_an y x g
def EQ_rt : Prop := ∀ (v : Int64) (kn : Nat) (u : rk_U), (0 ≤ v ∧ v ≤ 1000000000000) → (2 ≤ kn ∧ kn ≤ 5) → (rk_root v kn u).1 = vl_rt v (nI kn)
def EQ_dp : Prop := ∀ (t h : Int32) (u : rk_U) (z : S2), ((-4000 ≤ t.toInt64 ∧ t.toInt64 ≤ 10000) ∧ (0 ≤ h.toInt64 ∧ h.toInt64 ≤ 10000)) → fn_r (61094 * h.toInt64) (rk_raise (141 * t.toInt64) (8 * (24304 + t.toInt64)) u) / 1000 = vl_dp t h z
def EQ_dw : Prop := ∃ pf, HP pf ∧ ∀ (q : Int32) (u : rk_U), (0 ≤ q.toInt64 ∧ q.toInt64 ≤ 1000000000) → dw_r (dw_lo (dw_0 q u)) = vl_dw pf q
theorem vl_lg0 {v : Int64} {z : S2} (h : v ≤ 0) : vl_lg v z = -9223372036854775808 := by
  have a : v ≤ 1000000000000 := (i64_le _ _).mpr (by have := (i64_le _ _).mp h; have e : (0 : Int64).toInt = 0 := rfl; have e2 : (1000000000000 : Int64).toInt = 1000000000000 := rfl; omega)
  exact (if_pos a).trans (if_neg (Int64.not_lt.mpr h))
theorem vl_an0 {x y : Int32} {g : Nat → Int64} (hx : x = 0) (hy : y = 0) : vl_an y x g = -9223372036854775808 := by
  subst hx; subst hy
  exact (if_neg (by decide)).trans ((if_neg (by decide)).trans ((if_neg (by decide)).trans ((if_pos (by decide)).trans ((if_pos rfl).trans ((if_neg (by decide)).trans (if_pos rfl))))))
