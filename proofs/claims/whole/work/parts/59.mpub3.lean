/-! damp, dew, root: pure parts -/
theorem wm_bd {t : Int32} (h : ¬ is_wm t = 0) : -4000 ≤ t.toInt ∧ t.toInt ≤ 10000 := by
  unfold is_wm at h
  have e1 : (-4000 : Int32).toInt = -4000 := rfl
  have e2 : (10000 : Int32).toInt = 10000 := rfl
  by_cases q : t < -4000
  · rw [if_pos q] at h; exact absurd rfl h
  · rw [if_neg q] at h
    by_cases q2 : 10000 < t
    · rw [if_pos q2] at h; exact absurd rfl h
    · have a : ¬ t.toInt < -4000 := fun z => q ((i32_lt _ _).mpr (by rw [e1]; exact z))
      have b : ¬ 10000 < t.toInt := fun z => q2 ((i32_lt _ _).mpr (by rw [e2]; exact z))
      omega
def th_dp (w s : Int32) : Int32 := if is_wm w = 0 then 1 else if s < 0 then 1 else if s ≤ 10000 then 0 else 1
def vl_dp (w s : Int32) (z : S2) : Int64 := if is_wm w = 0 then 0 else if s < 0 then 0 else if s ≤ 10000 then pr_val w s z else 0
def dm (lo hi : Int32) : Int32 := lo + (hi - lo) / 2
theorem i32_sub {a b : Int32} (h1 : -(2 ^ 31) ≤ a.toInt - b.toInt) (h2 : a.toInt - b.toInt < 2 ^ 31) : (a - b).toInt = a.toInt - b.toInt := by
  rw [Int32.toInt_sub]; exact Int.bmod_eq_of_le (by omega) (by omega)
theorem i32_add {a b : Int32} (h1 : -(2 ^ 31) ≤ a.toInt + b.toInt) (h2 : a.toInt + b.toInt < 2 ^ 31) : (a + b).toInt = a.toInt + b.toInt := by
  rw [Int32.toInt_add]; exact Int.bmod_eq_of_le (by omega) (by omega)
theorem i32_half {a : Int32} (h : 0 ≤ a.toInt) : (a / 2).toInt = a.toInt / 2 := by
  rw [Int32.toInt_div, show (2 : Int32).toInt = 2 from rfl, Int.tdiv_eq_ediv_of_nonneg h]
  have := Int32.toInt_lt a
  exact Int.bmod_eq_of_le (by omega) (by omega)
theorem dm_ok {lo hi : Int32} (h1 : -4000 ≤ lo.toInt) (h2 : hi.toInt ≤ 10001) (h3 : lo.toInt < hi.toInt) : (hi - lo).toInt = hi.toInt - lo.toInt ∧ (dm lo hi).toInt = lo.toInt + (hi.toInt - lo.toInt) / 2 := by
  have e1 : (hi - lo).toInt = hi.toInt - lo.toInt := i32_sub (by omega) (by omega)
  have e2 : ((hi - lo) / 2).toInt = (hi.toInt - lo.toInt) / 2 := by rw [i32_half (by omega), e1]
  exact ⟨e1, by unfold dm; rw [i32_add (by omega) (by omega), e2]⟩
def dws (pf : Int32 → Int64) (q : Int32) : Nat → Int32 → Int32 → Int32
  | 0, lo, _ => lo
  | n + 1, lo, hi => if hi - lo ≤ 1 then lo else if q.toInt64 < pf (dm lo hi) then dws pf q n lo (dm lo hi) else dws pf q n (dm lo hi) hi
theorem dws_1 (pf : Int32 → Int64) (q : Int32) (n : Nat) {lo hi : Int32} (h : hi - lo ≤ 1) : dws pf q n lo hi = lo := by
  cases n with
  | zero => rfl
  | succ n => exact if_pos h
def HP (pf : Int32 → Int64) : Prop := ∀ (t : Int32) (z : S2), -4000 ≤ t.toInt → t.toInt ≤ 10000 → pr_val t 10000 z = pf t
def th_dw (q : Int32) : Int32 := if q < 0 then 1 else if q ≤ 1000000000 then 0 else 1
def vl_dw (pf : Int32 → Int64) (q : Int32) : Int64 := if q < 0 then 0 else if q ≤ 1000000000 then (if pf (-4000) ≤ q.toInt64 then (dws pf q 14 (-4000) 10001).toInt64 else -9223372036854775808) else 0
theorem dm_step {lo hi : Int32} {n : Nat} (h1 : -4000 ≤ lo.toInt) (h2 : hi.toInt ≤ 10001) (h3 : lo.toInt < hi.toInt) (h4 : hi.toInt - lo.toInt ≤ 2 ^ (n + 1)) (h5 : ¬ hi - lo ≤ 1) : lo.toInt < (dm lo hi).toInt ∧ (dm lo hi).toInt < hi.toInt ∧ (dm lo hi).toInt - lo.toInt ≤ 2 ^ n ∧ hi.toInt - (dm lo hi).toInt ≤ 2 ^ n := by
  obtain ⟨a, b⟩ := dm_ok h1 h2 h3
  have h6 : ¬ hi.toInt - lo.toInt ≤ 1 := fun z => h5 ((i32_le _ _).mpr (by rw [a]; exact z))
  rw [Int.pow_succ] at h4
  rw [b]
  generalize (2 : Int) ^ n = P at *
  omega
theorem dm_end {lo hi : Int32} (h1 : -4000 ≤ lo.toInt) (h2 : hi.toInt ≤ 10001) (h3 : lo.toInt < hi.toInt) (h4 : hi.toInt - lo.toInt ≤ 2 ^ 0) : hi - lo ≤ 1 := by
  obtain ⟨a, b⟩ := dm_ok h1 h2 h3
  exact (i32_le _ _).mpr (by rw [a]; exact h4)
/-! root -/
theorem nI_s1 (j : Nat) : nI (j + 1) - 1 = nI j := by
  rw [← nI_1 j]; exact Int32.add_sub_cancel _ _
def rt_1 (v : Int64) (g : Nat → Int64) : Nat → (Nat → Int64)
  | 0 => mr_wh 0 6 v g
  | i + 1 => mr_tim 6 1000000000 (rt_1 v g i)
def rt_2 (v : Int64) (j : Nat) (g : Nat → Int64) : Nat → Int64 := mr_tim 6 1000 (rt_1 v g j)
def rt_3 (m : Int64) (g : Nat → Int64) : Nat → (Nat → Int64)
  | 0 => mr_wh 0 0 1 g
  | i + 1 => mr_tim 0 m (rt_3 m g i)
theorem rt_1ok {v : Int64} {g : Nat → Int64} (h0 : 0 ≤ v.toInt) (hv : v.toInt ≤ 1000000000000) : ∀ i, i ≤ 5 → ok 6 (rt_1 v g i) ∧ vv 6 (rt_1 v g i) 24 = v.toInt * 1000000000 ^ i
  | 0, _ => by
    have w := wh_ok (f := 0) (r := 6) (v := v) (g := g) (by decide) h0 (by have := wh_room (f := 0) (v := v.toInt) (by decide) h0 hv; exact this)
    exact ⟨w.1, by show vv 6 (mr_wh 0 6 v g) 24 = _; rw [w.2.2]; simp⟩
  | i + 1, h => by
    obtain ⟨a, b⟩ := rt_1ok (g := g) h0 hv i (by omega)
    have t := tim_ok (r := 6) (m := 1000000000) a (by decide) (by decide)
    have e : (1000000000 : Int64).toInt = 1000000000 := rfl
    have hp : (1000000000 : Int) ^ i ≤ 1000000000 ^ 5 := by
      rcases (show i = 0 ∨ i = 1 ∨ i = 2 ∨ i = 3 ∨ i = 4 by omega) with r | r | r | r | r <;> subst r <;> decide
    have h2 := t.2.2 (by
      rw [b, e]
      have m := Int.mul_le_mul hv hp (Int.le_of_lt (Int.pow_pos (by decide))) (by decide)
      have q : (1000000000000 : Int) * 1000000000 ^ 5 * 1000000000 < 1000000 ^ 24 := by decide
      generalize v.toInt * 1000000000 ^ i = M at *
      omega)
    exact ⟨t.1, by show vv 6 (mr_tim 6 1000000000 (rt_1 v g i)) 24 = _; rw [h2, b, e, Int.pow_succ, Int.mul_assoc]⟩
theorem rt_2ok {v : Int64} {g : Nat → Int64} {j : Nat} (h0 : 0 ≤ v.toInt) (hv : v.toInt ≤ 1000000000000) (hj : j ≤ 4) : ok 6 (rt_2 v j g) ∧ vv 6 (rt_2 v j g) 24 = v.toInt * 1000000000 ^ j * 1000 := by
  obtain ⟨a, b⟩ := rt_1ok (g := g) h0 hv j (by omega)
  have t := tim_ok (r := 6) (m := 1000) a (by decide) (by decide)
  have e : (1000 : Int64).toInt = 1000 := rfl
  have hp : (1000000000 : Int) ^ j ≤ 1000000000 ^ 5 := by
    rcases (show j = 0 ∨ j = 1 ∨ j = 2 ∨ j = 3 ∨ j = 4 by omega) with r | r | r | r | r <;> subst r <;> decide
  have h2 := t.2.2 (by
    rw [b, e]
    have m := Int.mul_le_mul hv hp (Int.le_of_lt (Int.pow_pos (by decide))) (by decide)
    have q : (1000000000000 : Int) * 1000000000 ^ 5 * 1000 < 1000000 ^ 24 := by decide
    generalize v.toInt * 1000000000 ^ j = M at *
    omega)
  exact ⟨t.1, by show vv 6 (mr_tim 6 1000 (rt_1 v g j)) 24 = _; rw [h2, b, e]⟩
theorem pow_le5 {m : Int} (h0 : 0 ≤ m) (hm : m ≤ 1000000000000) : ∀ i, i ≤ 5 → m ^ i ≤ 1000000000000 ^ i ∧ 0 ≤ m ^ i
  | 0, _ => by simp
  | i + 1, h => by
    obtain ⟨a, b⟩ := pow_le5 h0 hm i (by omega)
    rw [Int.pow_succ, Int.pow_succ]
    exact ⟨Int.mul_le_mul a hm h0 (Int.le_trans b a), Int.mul_nonneg b h0⟩
theorem rt_3ok {m : Int64} {g : Nat → Int64} (h0 : 0 ≤ m.toInt) (hm : m.toInt ≤ 1000000000000) : ∀ i, i ≤ 5 → ok 0 (rt_3 m g i) ∧ fr 0 g (rt_3 m g i) ∧ vv 0 (rt_3 m g i) 24 = m.toInt ^ i
  | 0, _ => by
    have w := wh_ok (f := 0) (r := 0) (v := 1) (g := g) (by decide) (by decide) (by decide)
    exact ⟨w.1, w.2.1, by show vv 0 (mr_wh 0 0 1 g) 24 = _; rw [w.2.2, Int.pow_zero, Int.pow_zero]; rfl⟩
  | i + 1, h => by
    obtain ⟨a, c, b⟩ := rt_3ok (g := g) h0 hm i (by omega)
    have t := tim_ok (r := 0) (m := m) a h0 hm
    obtain ⟨p1, p0⟩ := pow_le5 h0 hm i (by omega)
    have hp : (1000000000000 : Int) ^ i ≤ 1000000000000 ^ 5 := by
      rcases (show i = 0 ∨ i = 1 ∨ i = 2 ∨ i = 3 ∨ i = 4 by omega) with r | r | r | r | r <;> subst r <;> decide
    have h2 := t.2.2 (by
      rw [b]
      have q := Int.mul_le_mul (Int.le_trans p1 hp) hm h0 (by decide)
      have z : (1000000000000 : Int) ^ 5 * 1000000000000 < 1000000 ^ 24 := by decide
      generalize m.toInt ^ i * m.toInt = M at *
      omega)
    exact ⟨t.1, fr_tr c t.2.1, by show vv 0 (mr_tim 0 m (rt_3 m g i)) 24 = _; rw [h2, b, Int.pow_succ]⟩
def rts (F : Int) (k : Nat) : Nat → Int64 → Int64 → Int64
  | 0, lo, _ => lo
  | n + 1, lo, hi => if hi - lo ≤ 1 then lo else if F < ((lo + hi) / 2).toInt ^ k then rts F k n lo ((lo + hi) / 2) else rts F k n ((lo + hi) / 2) hi
theorem rts_1 (F : Int) (k n : Nat) {lo hi : Int64} (h : hi - lo ≤ 1) : rts F k n lo hi = lo := by
  cases n with
  | zero => rfl
  | succ n => exact if_pos h
theorem rm_ok {lo hi : Int64} (h1 : 0 ≤ lo.toInt) (h2 : hi.toInt ≤ 1000000000001) (h3 : lo.toInt < hi.toInt) : (hi - lo).toInt = hi.toInt - lo.toInt ∧ ((lo + hi) / 2).toInt = (lo.toInt + hi.toInt) / 2 := by
  have e1 : (hi - lo).toInt = hi.toInt - lo.toInt := tI_sub (by omega) (by omega)
  have e2 : (lo + hi).toInt = lo.toInt + hi.toInt := tI_add (by omega) (by omega)
  exact ⟨e1, by rw [tI_div (by omega) (by decide), e2]; rfl⟩
theorem rm_step {lo hi : Int64} {n : Nat} (h1 : 0 ≤ lo.toInt) (h2 : hi.toInt ≤ 1000000000001) (h3 : lo.toInt < hi.toInt) (h4 : hi.toInt - lo.toInt ≤ 2 ^ (n + 1)) (h5 : ¬ hi - lo ≤ 1) : lo.toInt < ((lo + hi) / 2).toInt ∧ ((lo + hi) / 2).toInt < hi.toInt ∧ ((lo + hi) / 2).toInt - lo.toInt ≤ 2 ^ n ∧ hi.toInt - ((lo + hi) / 2).toInt ≤ 2 ^ n := by
  obtain ⟨a, b⟩ := rm_ok h1 h2 h3
  have h6 : ¬ hi.toInt - lo.toInt ≤ 1 := fun z => h5 ((i64_le _ _).mpr (by rw [a]; exact z))
  rw [Int.pow_succ] at h4
  rw [b]
  generalize (2 : Int) ^ n = P at *
  omega
theorem rm_end {lo hi : Int64} (h1 : 0 ≤ lo.toInt) (h2 : hi.toInt ≤ 1000000000001) (h3 : lo.toInt < hi.toInt) (h4 : hi.toInt - lo.toInt ≤ 2 ^ 0) : hi - lo ≤ 1 := by
  obtain ⟨a, b⟩ := rm_ok h1 h2 h3
  exact (i64_le _ _).mpr (by rw [a]; exact h4)
def th_rt (v : Int64) (k : Int32) : Int32 := if v < 0 then 1 else if 1000000000000 < v then 1 else if k < 2 then 1 else if k ≤ 5 then 0 else 1
def rt_F (v : Int64) (j : Nat) : Int := v.toInt * 1000000000 ^ j * 1000
def vl_rt (v : Int64) (k : Int32) : Int64 := if v < 0 then 0 else if 1000000000000 < v then 0 else if k < 2 then 0 else if k ≤ 5 then rts (rt_F v (k.toInt.toNat - 1)) k.toInt.toNat 40 0 1000000000001 else 0
theorem rt_kj {k : Int32} (h : ¬ k < 2) (h2 : k ≤ 5) : ∃ j, 1 ≤ j ∧ j ≤ 4 ∧ k = nI (j + 1) ∧ k.toInt.toNat = j + 1 := by
  have e2 : (2 : Int32).toInt = 2 := rfl
  have e5 : (5 : Int32).toInt = 5 := rfl
  have a : ¬ k.toInt < 2 := fun z => h ((i32_lt _ _).mpr (by rw [e2]; exact z))
  have b := (i32_le _ _).mp h2
  rw [e5] at b
  refine ⟨k.toInt.toNat - 1, by omega, by omega, ?_, by omega⟩
  rw [show k.toInt.toNat - 1 + 1 = k.toInt.toNat by omega, ← Int32.toInt_inj, nI_toInt (by omega)]
  omega
theorem rt_cmp {m : Int64} {k : Nat} {F : Int} {g : Nat → Int64} (h0 : 0 ≤ m.toInt) (hm : m.toInt ≤ 1000000000000) (hk : k ≤ 5) (o6 : ok 6 g) (e6 : vv 6 g 24 = F) : (md_ag 0 6 (rt_3 m g k) 24 ≤ 0 ↔ ¬ F < m.toInt ^ k) ∧ ok 6 (rt_3 m g k) ∧ vv 6 (rt_3 m g k) 24 = F := by
  obtain ⟨a, b, c⟩ := rt_3ok (g := g) h0 hm k hk
  have o := fr_ok b (s := 6) (by decide) o6
  have e : vv 6 (rt_3 m g k) 24 = F := by rw [fr_vv b (by decide), e6]
  refine ⟨?_, o, e⟩
  rw [ag_le a o, c, e]
  exact Int.not_lt.symm
