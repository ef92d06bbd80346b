/-! what power, logarithm, wave, angle and pressure come to -/
def ab9 (x : Int32) : Int64 := if 0 ≤ x then x.toInt64 else (-x).toInt64
def ng9 (x : Int32) : Int32 := if 0 ≤ x then 0 else 1
theorem i32_le (x y : Int32) : x ≤ y ↔ x.toInt ≤ y.toInt := Int32.le_iff_toInt_le
theorem i32_lt (x y : Int32) : x < y ↔ x.toInt < y.toInt := Int32.lt_iff_toInt_lt
theorem i64_le (x y : Int64) : x ≤ y ↔ x.toInt ≤ y.toInt := Int64.le_iff_toInt_le
theorem i64_lt (x y : Int64) : x < y ↔ x.toInt < y.toInt := Int64.lt_iff_toInt_lt
theorem ab9_eq {x : Int32} (h : -100000000 ≤ x.toInt) : (ab9 x).toInt = if 0 ≤ x.toInt then x.toInt else -x.toInt := by
  unfold ab9
  have hz : (0 : Int32).toInt = 0 := rfl
  by_cases q : 0 ≤ x
  · have q2 := (i32_le _ _).mp q
    rw [hz] at q2
    rw [if_pos q, if_pos q2, Int32.toInt_toInt64]
  · have q2 : ¬ (0 : Int) ≤ x.toInt := fun h => q ((i32_le _ _).mpr (by rw [hz]; exact h))
    rw [if_neg q, if_neg q2, Int32.toInt_toInt64, Int32.toInt_neg]
    exact Int.bmod_eq_of_le (by omega) (by omega)
theorem ab9_bd {x : Int32} {B : Int} (h : -B ≤ x.toInt) (h2 : x.toInt ≤ B) (hB : B ≤ 100000000) : 0 ≤ (ab9 x).toInt ∧ (ab9 x).toInt ≤ B := by
  rw [ab9_eq (by omega)]
  split <;> omega
def m_val (P : Nat → S2 → S2) (V : Nat → S2 → Int64) (z : S2) : Int64 := if md_op 0 (P 11 z).1 = 0 then V 11 z else V 17 (P 11 z)
def m_tol (z : S2) : S2 := (mr_tim 0 1000000000 z.1, z.2)
def m_say (f : Nat) (b : Int32) (z : S2) : Int64 := if b = 0 then mr_be f 0 z.1 else -(mr_be f 0 z.1) - 1
/-! power -/
def pw_x (f : Nat) (x : Int32) (g : Nat → Int64) : Nat → Int64 := mr_by 8 1000000 (mr_wh f 8 (ab9 x) g)
def pw_P (x : Int32) (f : Nat) (z : S2) : S2 := m_tol (po f (ng9 x) (pw_x f x z.1) z.2)
def pw_V (x : Int32) (f : Nat) (z : S2) : Int64 := m_say f 0 (pw_P x f z)
theorem pw_x8 {f : Nat} {x : Int32} {g : Nat → Int64} {B : Int} (hf : f ≤ 20) (h : -B ≤ x.toInt) (h2 : x.toInt ≤ B) (hB : B ≤ 100000000) : ok 8 (pw_x f x g) ∧ fr 8 g (pw_x f x g) ∧ vv 8 (pw_x f x g) 24 = (ab9 x).toInt * 1000000 ^ f / 1000000 := by
  have b := ab9_bd h h2 hB
  exact rat_ok hf b.1 (by omega) (by decide) (by decide)
theorem pw_x32 {f : Nat} {x : Int32} {g : Nat → Int64} (hf : f ≤ 20) (h : ¬ x < -20000000) (h2 : x ≤ 20000000) : ok 8 (pw_x f x g) ∧ vv 8 (pw_x f x g) 24 ≤ 32 * 1000000 ^ f := by
  have h1 := (i32_le _ _).mp h2
  have h0 : ¬ x.toInt < -20000000 := fun q => h ((i32_lt _ _).mpr q)
  have e1 : (20000000 : Int32).toInt = 20000000 := rfl
  rw [e1] at h1
  obtain ⟨a, -, c⟩ := pw_x8 (f := f) (g := g) (x := x) (B := 20000000) hf (by omega) h1 (by decide)
  have b := ab9_bd (x := x) (B := 20000000) (by omega) h1 (by decide)
  have hB := pw_pos f
  have m := Int.mul_le_mul_of_nonneg_right b.2 (Int.le_of_lt hB)
  refine ⟨a, ?_⟩
  rw [c]
  generalize (ab9 x).toInt * 1000000 ^ f = M at *
  generalize (1000000 : Int) ^ f = B at *
  omega
/-! logarithm -/
def lg_b (v : Int64) : Int32 := if 1000000 ≤ v then 0 else 1
def lg_1 (f : Nat) (z : S2) : S2 := (mr_cp 6 0 (lor f 1000000 z.1 z.2).1, (lor f 1000000 z.1 z.2).2)
def lg_2 (f : Nat) (v : Int64) (z : S2) : S2 := lor f v (lg_1 f z).1 (lg_1 f z).2
def lg_3 (v : Int64) (g : Nat → Int64) : Nat → Int64 := if lg_b v = 0 then mr_les 0 6 g else mr_cp 0 6 (mr_les 6 0 g)
def lg_P (v : Int64) (f : Nat) (z : S2) : S2 := m_tol (lg_3 v (lg_2 f v z).1, (lg_2 f v z).2)
def lg_V (v : Int64) (f : Nat) (z : S2) : Int64 := m_say f (lg_b v) (lg_P v f z)
/-! wave -/
def wv_it (g : Nat → Int64) : Nat → (Nat → Int64)
  | 0 => g
  | k + 1 => mr_les 8 7 (wv_it g k)
def wv_b (b : Int32) : Nat → Int32
  | 0 => b
  | k + 1 => if wv_b b k = 0 then 1 else 0
def wv_k (g : Nat → Int64) : Nat := ir_ 0 (rk_stop (fun i => if md_ag 8 7 (wv_it g i) 24 < 0 then 1 else 0) 50 0)
def wv_2 (g : Nat → Int64) : Nat → Int64 := if md_ag 8 4 g 24 ≤ 0 then g else mr_cp 8 6 (mr_les 6 8 (mr_cp 6 7 g))
def wv_3 (c b : Int32) (g : Nat → Int64) : Int32 := if md_ag 8 4 g 24 ≤ 0 then b else if b = c then 0 else 1
def wv_0 (x c : Int32) : Int32 := if 0 ≤ x then 0 else if c = 0 then 1 else 0
def wv_g0 (x : Int32) (f : Nat) (g : Nat → Int64) : Nat → Int64 := pw_x f x (hfr f g)
def wv_g1 (x : Int32) (f : Nat) (g : Nat → Int64) : Nat → Int64 := wv_it (wv_g0 x f g) (wv_k (wv_g0 x f g))
def wv_b1 (x c : Int32) (f : Nat) (g : Nat → Int64) : Int32 := wv_b (wv_0 x c) (wv_k (wv_g0 x f g))
def wv_P (x c : Int32) (f : Nat) (z : S2) : S2 := m_tol (qur f c (wv_2 (wv_g1 x f z.1)) z.2)
def wv_V (x c : Int32) (f : Nat) (z : S2) : Int64 := m_say f (wv_3 c (wv_b1 x c f z.1) (wv_g1 x f z.1)) (wv_P x c f z)
theorem ag_lt {a b : Nat} {g : Nat → Int64} (oa : ok a g) (ob : ok b g) : md_ag a b g 24 < 0 ↔ vv a g 24 < vv b g 24 := by
  obtain ⟨h1, h2, h3⟩ := ag_iff oa ob 24 (Nat.le_refl _)
  constructor
  · intro h
    by_cases q1 : vv b g 24 < vv a g 24
    · rw [h1.mpr q1] at h; exact absurd h (by decide)
    · by_cases q2 : vv a g 24 = vv b g 24
      · rw [h2.mpr q2] at h; exact absurd h (by decide)
      · omega
  · intro h; rw [h3.mpr h]; decide
theorem ag_le {a b : Nat} {g : Nat → Int64} (oa : ok a g) (ob : ok b g) : md_ag a b g 24 ≤ 0 ↔ vv a g 24 ≤ vv b g 24 := by
  obtain ⟨h1, h2, h3⟩ := ag_iff oa ob 24 (Nat.le_refl _)
  constructor
  · intro h
    by_cases q1 : vv b g 24 < vv a g 24
    · rw [h1.mpr q1] at h; exact absurd h (by decide)
    · omega
  · intro h
    by_cases q2 : vv a g 24 = vv b g 24
    · rw [h2.mpr q2]; decide
    · rw [h3.mpr (by omega)]; decide
theorem wv_inv {g : Nat → Int64} (o8 : ok 8 g) (o7 : ok 7 g) (o4 : ok 4 g) : ∀ k, (∀ i, i < k → ¬ md_ag 8 7 (wv_it g i) 24 < 0) →
    ok 8 (wv_it g k) ∧ ok 7 (wv_it g k) ∧ ok 4 (wv_it g k) ∧ vv 7 (wv_it g k) 24 = vv 7 g 24 ∧ vv 4 (wv_it g k) 24 = vv 4 g 24 ∧ vv 8 (wv_it g k) 24 = vv 8 g 24 - (k : Int) * vv 7 g 24
  | 0, _ => ⟨o8, o7, o4, rfl, rfl, by show vv 8 g 24 = _; simp⟩
  | k + 1, h => by
    obtain ⟨a, b, c, d, e, i⟩ := wv_inv o8 o7 o4 k (fun i hi => h i (by omega))
    have hl := les_ok (r := 8) (a := 7) (by decide) a b
    have hk := fun q => h k (by omega) ((ag_lt a b).mpr q)
    have hle : vv 7 (wv_it g k) 24 ≤ vv 8 (wv_it g k) 24 := Int.not_lt.mp hk
    refine ⟨hl.1, fr_ok hl.2.1 (by decide) b, fr_ok hl.2.1 (by decide) c, ?_, ?_, ?_⟩
    · show vv 7 (mr_les 8 7 (wv_it g k)) 24 = _; rw [fr_vv hl.2.1 (by decide), d]
    · show vv 4 (mr_les 8 7 (wv_it g k)) 24 = _; rw [fr_vv hl.2.1 (by decide), e]
    · show vv 8 (mr_les 8 7 (wv_it g k)) 24 = _
      rw [hl.2.2 hle, i, d]
      generalize vv 8 g 24 = X
      generalize vv 7 g 24 = Y
      rw [show ((k + 1 : Nat) : Int) = (k : Int) + 1 from rfl]
      grind
theorem wv_end {g : Nat → Int64} {B : Int} (o8 : ok 8 g) (o7 : ok 7 g) (o4 : ok 4 g) (hB : 0 < B) (h7 : 3 * B ≤ vv 7 g 24) (h8 : vv 8 g 24 ≤ 100 * B) : wv_k g ≤ 40 ∧ (∀ i, i < wv_k g → ¬ md_ag 8 7 (wv_it g i) 24 < 0) ∧ md_ag 8 7 (wv_it g (wv_k g)) 24 < 0 := by
  have hex : ∃ N, N ≤ 40 ∧ md_ag 8 7 (wv_it g N) 24 < 0 := by
    by_cases q : ∃ N, N ≤ 40 ∧ md_ag 8 7 (wv_it g N) 24 < 0
    · exact q
    · have hq : ∀ i, i < 40 → ¬ md_ag 8 7 (wv_it g i) 24 < 0 := fun i hi hh => q ⟨i, by omega, hh⟩
      obtain ⟨a, -, -, -, -, e⟩ := wv_inv o8 o7 o4 40 hq
      have := vv_nn a
      rw [e] at this
      generalize vv 8 g 24 = X at *
      generalize vv 7 g 24 = Y at *
      omega
  obtain ⟨N, hN, hn⟩ := hex
  have := stop_ok (fun i => if md_ag 8 7 (wv_it g i) 24 < 0 then (1 : Int32) else 0) 50 0 N (by show ¬ (if md_ag 8 7 (wv_it g N) 24 < 0 then (1 : Int32) else 0) = 0; rw [if_pos hn]; decide) (Nat.zero_le _) (by omega)
  unfold wv_k
  rw [ir_eq]
  obtain ⟨a, b, c⟩ := this
  refine ⟨by omega, fun i hi q => ?_, ?_⟩
  · have := a i (Nat.zero_le _) hi
    simp only [if_pos q] at this
    exact absurd this (by decide)
  · generalize rk_stop (fun i => if md_ag 8 7 (wv_it g i) 24 < 0 then (1 : Int32) else 0) 50 0 = K at *
    by_cases q : md_ag 8 7 (wv_it g K) 24 < 0
    · exact q
    · exact absurd (by show (if md_ag 8 7 (wv_it g K) 24 < 0 then (1 : Int32) else 0) = 0; rw [if_neg q]) b
theorem wv_g0_ok {f : Nat} {x : Int32} {g : Nat → Int64} (hf : f ≤ 20) (hf0 : 0 < f) (h : ¬ x < -100000000) (h2 : x ≤ 100000000) : ok 8 (wv_g0 x f g) ∧ ok 7 (wv_g0 x f g) ∧ ok 4 (wv_g0 x f g) ∧ 3 * 1000000 ^ f ≤ vv 7 (wv_g0 x f g) 24 ∧ 10 * vv 7 (wv_g0 x f g) 24 ≤ 33 * 1000000 ^ f ∧ vv 4 (wv_g0 x f g) 24 = vv 7 (wv_g0 x f g) 24 / 2 ∧ vv 8 (wv_g0 x f g) 24 ≤ 100 * 1000000 ^ f := by
  have h1 := (i32_le _ _).mp h2
  have h0 : ¬ x.toInt < -100000000 := fun q => h ((i32_lt _ _).mpr q)
  have e1 : (100000000 : Int32).toInt = 100000000 := rfl
  rw [e1] at h1
  obtain ⟨a, b, c, d, e⟩ := hf_ok (f := f) (g := g) hf hf0
  obtain ⟨i, j, k⟩ := pw_x8 (f := f) (g := hfr f g) (x := x) (B := 100000000) hf (by omega) h1 (by decide)
  have bb := ab9_bd (x := x) (B := 100000000) (by omega) h1 (by decide)
  have hB := pw_pos f
  have m := Int.mul_le_mul_of_nonneg_right bb.2 (Int.le_of_lt hB)
  have e7 : vv 7 (wv_g0 x f g) 24 = vv 7 (hfr f g) 24 := fr_vv j (by decide)
  have e4 : vv 4 (wv_g0 x f g) 24 = vv 4 (hfr f g) 24 := fr_vv j (by decide)
  rw [e7, e4]
  refine ⟨i, fr_ok j (by decide) a, fr_ok j (by decide) b, c, d, e, ?_⟩
  show vv 8 (pw_x f x (hfr f g)) 24 ≤ _
  rw [k]
  generalize (ab9 x).toInt * 1000000 ^ f = M at *
  generalize (1000000 : Int) ^ f = B at *
  omega
theorem wv_st {f : Nat} {x : Int32} {g : Nat → Int64} (hf : f ≤ 20) (hf0 : 0 < f) (h : ¬ x < -100000000) (h2 : x ≤ 100000000) : wv_k (wv_g0 x f g) ≤ 40 ∧ (∀ i, i < wv_k (wv_g0 x f g) → ¬ md_ag 8 7 (wv_it (wv_g0 x f g) i) 24 < 0) ∧ md_ag 8 7 (wv_it (wv_g0 x f g) (wv_k (wv_g0 x f g))) 24 < 0 := by
  obtain ⟨a, b, c, d, e, i, j⟩ := wv_g0_ok (g := g) hf hf0 h h2
  exact wv_end a b c (pw_pos f) d j
theorem wv_q {f : Nat} {x : Int32} {g : Nat → Int64} (hf : f ≤ 20) (hf0 : 0 < f) (h : ¬ x < -100000000) (h2 : x ≤ 100000000) : ok 8 (wv_2 (wv_g1 x f g)) ∧ vv 8 (wv_2 (wv_g1 x f g)) 24 ≤ 2 * 1000000 ^ f := by
  obtain ⟨a, b, c, d, e, i, j⟩ := wv_g0_ok (g := g) hf hf0 h h2
  obtain ⟨s1, s2, s3⟩ := wv_st (g := g) hf hf0 h h2
  have hI := wv_inv a b c (wv_k (wv_g0 x f g)) s2
  obtain ⟨k1, k2, k3, k4, k5, -⟩ := hI
  have hl := (ag_lt k1 k2).mp s3
  rw [k4] at hl
  rw [i] at k5
  have hd : wv_g1 x f g = wv_it (wv_g0 x f g) (wv_k (wv_g0 x f g)) := rfl
  rw [← hd] at k1 k2 k3 k4 k5 hl
  have nn := vv_nn k1
  have p7 := pw_pos f
  unfold wv_2
  by_cases q : md_ag 8 4 (wv_g1 x f g) 24 ≤ 0
  · rw [if_pos q]
    have q2 := (ag_le k1 k3).mp q
    rw [k5] at q2
    refine ⟨k1, ?_⟩
    generalize vv 8 (wv_g1 x f g) 24 = X at *
    generalize vv 7 (wv_g0 x f g) 24 = Y at *
    generalize (1000000 : Int) ^ f = B at *
    omega
  · rw [if_neg q]
    have q2 : ¬ vv 8 (wv_g1 x f g) 24 ≤ vv 4 (wv_g1 x f g) 24 := fun z => q ((ag_le k1 k3).mpr z)
    rw [k5] at q2
    have c1 := cp_ok (r := 6) (a := 7) (by decide) k2
    have l1 := les_ok (r := 6) (a := 8) (by decide) c1.1 (fr_ok c1.2.1 (by decide) k1)
    have lv := l1.2.2
    rw [c1.2.2, fr_vv c1.2.1 (by decide), k4] at lv
    have c2 := cp_ok (r := 8) (a := 6) (by decide) l1.1
    refine ⟨c2.1, ?_⟩
    rw [c2.2.2, lv (Int.le_of_lt hl)]
    generalize vv 8 (wv_g1 x f g) 24 = X at *
    generalize vv 7 (wv_g0 x f g) 24 = Y at *
    generalize (1000000 : Int) ^ f = B at *
    omega
/-! angle -/
def ag_1 (f : Nat) (a b : Int64) (g : Nat → Int64) : Nat → Int64 := if b ≤ a then anr f b a (hfr f g) else mr_cp 0 6 (mr_les 6 0 (mr_cp 6 4 (anr f a b (hfr f g))))
def ag_2 (x : Int32) (g : Nat → Int64) : Nat → Int64 := if 0 ≤ x then g else mr_cp 0 6 (mr_les 6 0 (mr_cp 6 7 g))
def ag_P (y x : Int32) (f : Nat) (g : Nat → Int64) : Nat → Int64 := mr_tim 0 1000000000 (ag_2 x (ag_1 f (ab9 x) (ab9 y) g))
def ag_V (y x : Int32) (f : Nat) (g : Nat → Int64) : Int64 := if ng9 y = 0 then mr_be f 0 (ag_P y x f g) else -(mr_be f 0 (ag_P y x f g)) - 1
def ag_val (y x : Int32) (g : Nat → Int64) : Int64 := if md_op 0 (ag_P y x 11 g) = 0 then ag_V y x 11 g else ag_V y x 17 (ag_P y x 11 g)
/-! pressure -/
def pr_a (w : Int32) : Int32 := if 0 ≤ w then w else -w
def pr_x (f : Nat) (w : Int32) (g : Nat → Int64) : Nat → Int64 := mr_by 8 (1000 * (24304 + w).toInt64) (mr_wh f 8 (17625 * (pr_a w).toInt64) g)
def pr_P (w s : Int32) (f : Nat) (z : S2) : S2 := (mr_by 0 1000 (mr_tim 0 (61094 * s.toInt64) (po f (ng9 w) (pr_x f w z.1) z.2).1), (po f (ng9 w) (pr_x f w z.1) z.2).2)
def pr_V (w s : Int32) (f : Nat) (z : S2) : Int64 := mr_be f 0 (pr_P w s f z).1
def pr_val (w s : Int32) (z : S2) : Int64 := if w = 0 then 61094 * s.toInt64 / 1000 else if s = 0 then 61094 * s.toInt64 / 1000 else m_val (pr_P w s) (pr_V w s) z
theorem pr_ok {f : Nat} {w : Int32} {g : Nat → Int64} (hf : f ≤ 20) (h : -4000 ≤ w.toInt) (h2 : w.toInt ≤ 10000) : (¬ 1000 * (24304 + w).toInt64 = 0) ∧ ok 8 (pr_x f w g) ∧ vv 8 (pr_x f w g) 24 ≤ 32 * 1000000 ^ f := by
  have ha : 0 ≤ (pr_a w).toInt ∧ (pr_a w).toInt ≤ 10000 := by
    unfold pr_a
    have hz : (0 : Int32).toInt = 0 := rfl
    by_cases q : 0 ≤ w
    · rw [if_pos q]; have := (i32_le _ _).mp q; omega
    · rw [if_neg q, Int32.toInt_neg]
      have q2 : ¬ (0 : Int) ≤ w.toInt := fun z => q ((i32_le _ _).mpr (by rw [hz]; exact z))
      rw [Int.bmod_eq_of_le (by omega) (by omega)]; omega
  have e24 : (24304 : Int32).toInt = 24304 := rfl
  have es : (24304 + w).toInt = 24304 + w.toInt := by
    rw [Int32.toInt_add, e24]; exact Int.bmod_eq_of_le (by omega) (by omega)
  have e1000 : (1000 : Int64).toInt = 1000 := rfl
  have e17 : (17625 : Int64).toInt = 17625 := rfl
  have eq : (1000 * (24304 + w).toInt64).toInt = 1000 * (24304 + w.toInt) := by
    rw [tI_mul (by rw [e1000, Int32.toInt_toInt64, es]; omega) (by rw [e1000, Int32.toInt_toInt64, es]; omega), e1000, Int32.toInt_toInt64, es]
  have ev : (17625 * (pr_a w).toInt64).toInt = 17625 * (pr_a w).toInt := by
    rw [tI_mul (by rw [e17, Int32.toInt_toInt64]; omega) (by rw [e17, Int32.toInt_toInt64]; omega), e17, Int32.toInt_toInt64]
  obtain ⟨a, -, c⟩ := rat_ok (f := f) (r := 8) (v := 17625 * (pr_a w).toInt64) (q := 1000 * (24304 + w).toInt64) (g := g) hf (by omega) (by omega) (by omega) (by omega)
  refine ⟨fun q => ?_, a, ?_⟩
  · have := congrArg Int64.toInt q
    rw [eq, show (0 : Int64).toInt = 0 from rfl] at this; omega
  · show vv 8 (mr_by 8 (1000 * (24304 + w).toInt64) (mr_wh f 8 (17625 * (pr_a w).toInt64) g)) 24 ≤ _
    rw [c, eq, ev]
    have hB := pw_pos f
    have m := Int.mul_le_mul_of_nonneg_right (show 17625 * (pr_a w).toInt ≤ 32 * (1000 * (24304 + w.toInt)) by omega) (Int.le_of_lt hB)
    refine Int.le_trans (Int.ediv_le_ediv (by omega) m) ?_
    rw [show 32 * (1000 * (24304 + w.toInt)) * (1000000 : Int) ^ f = 32 * 1000000 ^ f * (1000 * (24304 + w.toInt)) by generalize (1000000 : Int) ^ f = B; grind, Int.mul_ediv_cancel _ (by omega)]
    exact Int.le_refl _
theorem an_ne {a b : Int64} (ha : 0 ≤ a.toInt) (hab : a.toInt ≤ b.toInt) (hb0 : 0 < b.toInt) (hb : b.toInt ≤ 1000000) : ¬ ((a * a) + (b * b)) = 0 := fun q => by
  obtain ⟨s1, s2, s3, s4, s5, s6, s7⟩ := an_sq ha hab hb
  have s8 := Int.mul_pos hb0 hb0
  have := congrArg Int64.toInt q
  rw [s3, show (0 : Int64).toInt = 0 from rfl] at this
  omega
