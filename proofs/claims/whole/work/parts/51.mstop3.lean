/-! the reference's series stop: angleOf, quarter; half's registers -/
theorem le_half {a t B : Int} (h : 2 * a ≤ t) (h1 : t ≤ B) (h0 : 0 ≤ a) : a ≤ B := by omega
theorem le_half2 {c a t B : Int} (l : c ≤ a) (h : 2 * a ≤ t) (h1 : t ≤ B) (h0 : 0 ≤ a) : c ≤ B := by omega
theorem le_half3 {c a t : Int} (l : c ≤ a) (h : 2 * a ≤ t) : 2 * c ≤ t := by omega
theorem pm_nn {f : Nat} : (0 : Int) ≤ 1000000 ^ f := Int.le_of_lt (pw_pos f)
theorem an_sq {a b : Int64} (ha : 0 ≤ a.toInt) (hab : a.toInt ≤ b.toInt) (hb : b.toInt ≤ 1000000) : (a * a).toInt = a.toInt * a.toInt ∧ (a * b).toInt = a.toInt * b.toInt ∧ (a * a + b * b).toInt = a.toInt * a.toInt + b.toInt * b.toInt ∧ 0 ≤ a.toInt * a.toInt ∧ a.toInt * a.toInt ≤ a.toInt * b.toInt ∧ a.toInt * b.toInt ≤ b.toInt * b.toInt ∧ b.toInt * b.toInt ≤ 1000000000000 := by
  have h1 := Int.mul_nonneg ha ha
  have h2 := Int.mul_le_mul_of_nonneg_left hab ha
  have h3 := Int.mul_le_mul_of_nonneg_right hab (show 0 ≤ b.toInt by omega)
  have h4 := Int.mul_le_mul hb hb (by omega) (by omega)
  have ea : (a * a).toInt = a.toInt * a.toInt := tI_mul (by omega) (by omega)
  have eb : (b * b).toInt = b.toInt * b.toInt := tI_mul (by omega) (by omega)
  exact ⟨ea, tI_mul (by omega) (by omega), by rw [tI_add (by omega) (by omega), ea, eb], h1, h2, h3, by omega⟩
theorem an_inv {f : Nat} {a b : Int64} {g : Nat → Int64} (hf : f ≤ 18) (ha : 0 ≤ a.toInt) (hab : a.toInt ≤ b.toInt) (hb0 : 0 < b.toInt) (hb : b.toInt ≤ 1000000) : ∀ n, n ≤ 800 →
    (ok 0 (an_it f a b g n) ∧ ok 1 (an_it f a b g n) ∧ vv 1 (an_it f a b g n) 24 ≤ 1000000 ^ f) ∧ (0 < n → 2 * vv 1 (an_it f a b g n) 24 ≤ vv 1 (an_it f a b g (n - 1)) 24)
  | 0, _ => by
    obtain ⟨s1, s2, s3, s4, s5, s6, s7⟩ := an_sq ha hab hb
    have s8 := Int.mul_pos hb0 hb0
    have rt := rat_ok (f := f) (r := 1) (v := a * b) (q := a * a + b * b) (g := g) (by omega) (by omega) (by omega) (by omega) (by omega)
    have c := cp_ok (r := 0) (a := 1) (by decide) rt.1
    have o1 := fr_ok c.2.1 (s := 1) (by decide) rt.1
    refine ⟨⟨c.1, o1, ?_⟩, fun h => absurd h (by omega)⟩
    show vv 1 (mr_cp 0 1 (mr_by 1 (a * a + b * b) (mr_wh f 1 (a * b) g))) 24 ≤ _
    rw [fr_vv c.2.1 (by decide), rt.2.2, s2, s3]
    refine Int.le_trans (Int.ediv_le_ediv (by omega) (Int.mul_le_mul_of_nonneg_right (show a.toInt * b.toInt ≤ a.toInt * a.toInt + b.toInt * b.toInt by omega) (pm_nn))) ?_
    rw [Int.mul_ediv_cancel_left _ (by omega)]
    exact Int.le_refl _
  | n + 1, h => by
    obtain ⟨⟨o0, o1, h1⟩, -⟩ := an_inv (g := g) hf ha hab hb0 hb n (by omega)
    obtain ⟨s1, s2, s3, s4, s5, s6, s7⟩ := an_sq ha hab hb
    have s8 := Int.mul_pos hb0 hb0
    have hq : (nI (n + 1)).toInt64.toInt = ((n + 1 : Nat) : Int) := nI_L (by omega)
    have q2 : (2 * (nI (n + 1)).toInt64).toInt = 2 * ((n + 1 : Nat) : Int) := by rw [tI_mul (by rw [hq, show (2 : Int64).toInt = 2 from rfl]; omega) (by rw [hq, show (2 : Int64).toInt = 2 from rfl]; omega), hq]; rfl
    have q3 : (2 * (nI (n + 1)).toInt64 + 1).toInt = 2 * ((n + 1 : Nat) : Int) + 1 := by rw [tI_add (by rw [q2, show (1 : Int64).toInt = 1 from rfl]; omega) (by rw [q2, show (1 : Int64).toInt = 1 from rfl]; omega), q2]; rfl
    have T0 := vv_nn o1
    have room : ∀ m : Int, 0 ≤ m → m ≤ 1000000000000 → ∀ x : Int, 0 ≤ x → x ≤ 1000000 ^ f → x * m < 1000000 ^ 24 := fun m hm hm2 x hx hx2 => by
      have p1 := wh_room (f := f) (v := m) (by omega) hm hm2
      have p2 := Int.mul_le_mul_of_nonneg_right hx2 hm
      have : m * 1000000 ^ f = 1000000 ^ f * m := Int.mul_comm _ _
      omega
    have t1 := tim_ok (r := 1) (m := a * a) o1 (by omega) (by omega)
    have e1 := t1.2.2 (by rw [s1]; exact room _ s4 (by omega) _ T0 h1)
    have d1 := by_ok (r := 1) (q := a * a + b * b) t1.1 (by omega) (by omega)
    have e2 : vv 1 (mr_by 1 (a * a + b * b) (mr_tim 1 (a * a) (an_it f a b g n))) 24 = vv 1 (an_it f a b g n) 24 * (a.toInt * a.toInt) / (a.toInt * a.toInt + b.toInt * b.toInt) := by rw [d1.2.2, e1, s1, s3]
    have hh := dv_half (T := vv 1 (an_it f a b g n) 24) (s := a.toInt * a.toInt) (B := a.toInt * a.toInt + b.toInt * b.toInt) T0 (by omega) (by omega)
    have hh0 := Int.ediv_nonneg (Int.mul_nonneg T0 s4) (show 0 ≤ a.toInt * a.toInt + b.toInt * b.toInt by omega)
    rw [← e2] at hh hh0
    have t2 := tim_ok (r := 1) (m := 2 * (nI (n + 1)).toInt64) d1.1 (by omega) (by omega)
    have e3 := t2.2.2 (by rw [q2]; exact room _ (by omega) (by omega) _ hh0 (le_half hh h1 hh0))
    have d2 := by_ok (r := 1) (q := 2 * (nI (n + 1)).toInt64 + 1) t2.1 (by omega) (by omega)
    have o0' := fr_ok d2.2.1 (s := 0) (by decide) (fr_ok t2.2.1 (by decide) (fr_ok d1.2.1 (by decide) (fr_ok t1.2.1 (by decide) o0)))
    have ad := add_ok (r := 0) (a := 1) (by decide) o0' d2.1
    have ER : an_it f a b g (n + 1) = mr_add 0 1 (mr_by 1 (2 * (nI (n + 1)).toInt64 + 1) (mr_tim 1 (2 * (nI (n + 1)).toInt64) (mr_by 1 (a * a + b * b) (mr_tim 1 (a * a) (an_it f a b g n))))) := rfl
    have o1' := fr_ok ad.2.1 (s := 1) (by decide) d2.1
    have e4 : vv 1 (an_it f a b g (n + 1)) 24 = vv 1 (mr_by 1 (a * a + b * b) (mr_tim 1 (a * a) (an_it f a b g n))) 24 * (2 * ((n + 1 : Nat) : Int)) / (2 * ((n + 1 : Nat) : Int) + 1) := by
      rw [ER, fr_vv ad.2.1 (by decide), d2.2.2, e3, q2, q3]
    have le1 : vv 1 (an_it f a b g (n + 1)) 24 ≤ vv 1 (mr_by 1 (a * a + b * b) (mr_tim 1 (a * a) (an_it f a b g n))) 24 := by
      rw [e4]
      refine Int.le_trans (Int.ediv_le_ediv (by omega) (Int.mul_le_mul_of_nonneg_left (show 2 * ((n + 1 : Nat) : Int) ≤ 2 * ((n + 1 : Nat) : Int) + 1 by omega) hh0)) ?_
      rw [Int.mul_ediv_cancel _ (by omega)]
      exact Int.le_refl _
    have nn := vv_nn o1'
    refine ⟨⟨ad.1, o1', ?_⟩, fun _ => ?_⟩
    · exact le_half2 le1 hh h1 hh0
    · show 2 * vv 1 (an_it f a b g (n + 1)) 24 ≤ vv 1 (an_it f a b g n) 24
      exact le_half3 le1 hh
theorem an_stop {f : Nat} {a b : Int64} {g : Nat → Int64} (hf : f ≤ 18) (ha : 0 ≤ a.toInt) (hab : a.toInt ≤ b.toInt) (hb0 : 0 < b.toInt) (hb : b.toInt ≤ 1000000) : ¬ md_no 1 (an_it f a b g 700) 24 = 0 := by
  have hi := fun k h => an_inv (g := g) hf ha hab hb0 hb k h
  refine (no_ok (hi 700 (by decide)).1.2.1).mpr (st_zero (t := fun n' => vv 1 (an_it f a b g n') 24) (fun n' hn' => vv_nn (hi n' (by omega)).1.2.1) (fun n' hn' => ?_) (vv_tp (hi 0 (by omega)).1.2.1))
  exact (hi (n' + 1) (by omega)).2 (by omega)
/-! quarter -/
theorem qu_as_ok {z q : Int32} {g : Nat → Int64} (o0 : ok 0 g) (o1 : ok 1 g) : ok 0 (qu_as z q g) ∧ fr 0 g (qu_as z q g) := by
  have ha := add_ok (r := 0) (a := 1) (by decide) o0 o1
  have hl := les_ok (r := 0) (a := 1) (by decide) o0 o1
  unfold qu_as
  by_cases e : (q + z) - (q + z) / 4 * 4 = 2
  · rw [if_pos e]; exact ⟨hl.1, hl.2.1⟩
  · rw [if_neg e]; exact ⟨ha.1, ha.2.1⟩
theorem qu_room {f : Nat} {a b : Int} (hf : f ≤ 20) (ha : 0 ≤ a) (hb : 0 ≤ b) (ha2 : a ≤ 100 * 1000000 ^ f) (hb2 : b ≤ 100 * 1000000 ^ f) : a * b < 1000000 ^ (f + 24) := by
  have h1 := Int.mul_le_mul ha2 hb2 hb (by omega)
  have h2 := wh_room (f := f) (v := 10000) hf (by decide) (by decide)
  have h3 := Int.mul_lt_mul_of_pos_right h2 (pw_pos f)
  rw [Nat.add_comm, Int.pow_add]
  have e : 100 * 1000000 ^ f * (100 * 1000000 ^ f) = 10000 * (1000000 : Int) ^ f * 1000000 ^ f := by
    generalize (1000000 : Int) ^ f = B
    grind
  omega
theorem qu_q {n : Nat} (h : n ≤ 2000) : ((nI n).toInt64 * (nI n + 1).toInt64).toInt = ((n * (n + 1) : Nat) : Int) := by
  have h2 : n * (n + 1) ≤ 2000 * 2001 := Nat.mul_le_mul h (by omega)
  rw [show nI n + 1 = nI (n + 1) from nI_1 n, nI_toL (by omega), nI_toL (by omega), nL_mul, nL_toInt (by omega)]
theorem sq_4 {X B : Int} (hX : 0 ≤ X) (hB : 0 < B) (h : X ≤ 2 * B) : X * X / B ≤ 4 * B := by
  have h1 := Int.mul_le_mul h h hX (by omega)
  have h2 := Int.ediv_le_ediv hB h1
  have e : 2 * B * (2 * B) = 4 * B * B := by grind
  rw [e, Int.mul_ediv_cancel _ (by omega)] at h2
  exact h2
theorem dv_q4 {T s B q : Int} (hT : 0 ≤ T) (hs0 : 0 ≤ s) (hB : 0 < B) (hs : s ≤ 4 * B) (hq : 8 ≤ q) : 2 * (T * s / B / q) ≤ T := by
  have h0 := Int.ediv_nonneg (Int.mul_nonneg hT hs0) (Int.le_of_lt hB)
  have h1 := Int.ediv_mul_le (T * s) (b := B) (by omega)
  have h2 := Int.mul_le_mul_of_nonneg_left hs hT
  have d0 := Int.ediv_nonneg h0 (show 0 ≤ q by omega)
  have h3 := Int.ediv_mul_le (T * s / B) (b := q) (by omega)
  have h4 := Int.mul_le_mul_of_nonneg_left hq d0
  generalize T * s / B / q = e at *
  generalize T * s / B = d at *
  have h5 : d * B ≤ 4 * T * B := by
    have : T * (4 * B) = 4 * T * B := by grind
    omega
  have h6 := Int.le_of_mul_le_mul_right h5 hB
  omega
theorem dv_q1 {T s B q : Int} (hT : 0 ≤ T) (hs0 : 0 ≤ s) (hB : 0 < B) (hs : s ≤ 4 * B) (hq : 2 ≤ q) : T * s / B / q ≤ 2 * T := by
  have h0 := Int.ediv_nonneg (Int.mul_nonneg hT hs0) (Int.le_of_lt hB)
  have h1 := Int.ediv_mul_le (T * s) (b := B) (by omega)
  have h2 := Int.mul_le_mul_of_nonneg_left hs hT
  have d0 := Int.ediv_nonneg h0 (show 0 ≤ q by omega)
  have h3 := Int.ediv_mul_le (T * s / B) (b := q) (by omega)
  have h4 := Int.mul_le_mul_of_nonneg_left hq d0
  generalize T * s / B / q = e at *
  generalize T * s / B = d at *
  have h5 : d * B ≤ 4 * T * B := by
    have : T * (4 * B) = 4 * T * B := by grind
    omega
  have h6 := Int.le_of_mul_le_mul_right h5 hB
  omega
theorem qu_n2 (z : Int32) : qu_n z = 1 ∨ qu_n z = 2 := by
  unfold qu_n
  by_cases e : z = 0
  · rw [if_pos e]; exact Or.inr rfl
  · rw [if_neg e]; exact Or.inl rfl
theorem qu_inv {f : Nat} {z : Int32} {g p : Nat → Int64} (hf : f ≤ 18) (o8 : ok 8 g) (hX : vv 8 g 24 ≤ 2 * 1000000 ^ f) : ∀ n, n ≤ 800 →
    (ok 0 (qu_it f z g p n).1 ∧ ok 1 (qu_it f z g p n).1 ∧ ok 2 (qu_it f z g p n).1 ∧ vv 2 (qu_it f z g p n).1 24 ≤ 4 * 1000000 ^ f ∧ vv 1 (qu_it f z g p n).1 24 ≤ 4 * 1000000 ^ f ∧ (n = 0 → vv 1 (qu_it f z g p n).1 24 ≤ 2 * 1000000 ^ f)) ∧ (1 < n → 2 * vv 1 (qu_it f z g p n).1 24 ≤ vv 1 (qu_it f z g p (n - 1)).1 24)
  | 0, _ => by
    have X0 := vv_nn o8
    have hB := pw_pos f
    have m := mul_ok (f := f) (r := 2) (a := 8) (b := 8) (p := p) (by omega) o8 o8 (qu_room (by omega) X0 X0 (by omega) (by omega))
    have w := wh_ok (f := f) (r := 1) (v := 1) (g := mr_mul f 2 8 8 g p) (by omega) (by decide) (wh_room (by omega) (by decide) (by decide))
    have c := cp_ok (r := 1) (a := 8) (g := mr_mul f 2 8 8 g p) (by decide) (fr_ok m.2.1 (by decide) o8)
    have q : ok 1 (qu_1 f z (mr_mul f 2 8 8 g p)) ∧ fr 1 (mr_mul f 2 8 8 g p) (qu_1 f z (mr_mul f 2 8 8 g p)) ∧ vv 1 (qu_1 f z (mr_mul f 2 8 8 g p)) 24 ≤ 2 * 1000000 ^ f := by
      unfold qu_1
      by_cases e : z = 0
      · rw [if_pos e]; exact ⟨c.1, c.2.1, by rw [c.2.2, fr_vv m.2.1 (by decide)]; exact hX⟩
      · rw [if_neg e]; exact ⟨w.1, w.2.1, by rw [w.2.2, show (1 : Int64).toInt = 1 from rfl]; omega⟩
    have k := cp_ok (r := 0) (a := 1) (by decide) q.1
    have ER : (qu_it f z g p 0).1 = mr_cp 0 1 (qu_1 f z (mr_mul f 2 8 8 g p)) := rfl
    rw [ER]
    refine ⟨⟨k.1, fr_ok k.2.1 (by decide) q.1, fr_ok k.2.1 (by decide) (fr_ok q.2.1 (by decide) m.1), ?_, ?_, fun _ => ?_⟩, fun h => absurd h (by omega)⟩
    · rw [fr_vv k.2.1 (by decide), fr_vv q.2.1 (by decide), m.2.2]
      exact sq_4 X0 hB hX
    · rw [fr_vv k.2.1 (by decide)]; have := q.2.2; omega
    · rw [fr_vv k.2.1 (by decide)]; exact q.2.2
  | n + 1, h => by
    obtain ⟨⟨o0, o1, o2, h2, h1, h10⟩, -⟩ := qu_inv (z := z) (p := p) hf o8 hX n (by omega)
    have hB := pw_pos f
    have m := mul_ok (f := f) (r := 1) (a := 1) (b := 2) (p := (qu_it f z g p n).2) (by omega) o1 o2 (qu_room (by omega) (vv_nn o1) (vv_nn o2) (by omega) (by omega))
    have hz := qu_n2 z
    have hq := qu_q (n := qu_n z + 2 * n) (by omega)
    have hq1 : 2 ≤ (qu_n z + 2 * n) * (qu_n z + 2 * n + 1) := Nat.le_trans (show 2 ≤ 1 * 2 by decide) (Nat.mul_le_mul (by omega) (by omega))
    have hq2 : (qu_n z + 2 * n) * (qu_n z + 2 * n + 1) ≤ 2000 * 2000 := Nat.mul_le_mul (by omega) (by omega)
    have d := by_ok (r := 1) (q := (nI (qu_n z + 2 * n)).toInt64 * (nI (qu_n z + 2 * n) + 1).toInt64) m.1 (by omega) (by omega)
    have o0' := fr_ok d.2.1 (s := 0) (by decide) (fr_ok m.2.1 (by decide) o0)
    have a := qu_as_ok (z := qu_b z) (q := nI (qu_n z + 2 * n)) o0' d.1
    have ER : (qu_it f z g p (n + 1)).1 = qu_as (qu_b z) (nI (qu_n z + 2 * n)) (mr_by 1 ((nI (qu_n z + 2 * n)).toInt64 * (nI (qu_n z + 2 * n) + 1).toInt64) (mr_mul f 1 1 2 (qu_it f z g p n).1 (qu_it f z g p n).2)) := rfl
    have e1 : vv 1 (qu_it f z g p (n + 1)).1 24 = vv 1 (qu_it f z g p n).1 24 * vv 2 (qu_it f z g p n).1 24 / 1000000 ^ f / (((qu_n z + 2 * n) * (qu_n z + 2 * n + 1) : Nat) : Int) := by
      rw [ER, fr_vv a.2 (by decide), d.2.2, m.2.2, hq]
    have b1 := dv_q1 (q := (((qu_n z + 2 * n) * (qu_n z + 2 * n + 1) : Nat) : Int)) (vv_nn o1) (vv_nn o2) hB h2 (by omega)
    rw [← e1] at b1
    have b4 : 0 < n → 2 * vv 1 (qu_it f z g p (n + 1)).1 24 ≤ vv 1 (qu_it f z g p n).1 24 := fun hn => by
      have hq3 : 8 ≤ (qu_n z + 2 * n) * (qu_n z + 2 * n + 1) := Nat.le_trans (show 8 ≤ 3 * 4 by decide) (Nat.mul_le_mul (by omega) (by omega))
      rw [e1]
      exact dv_q4 (vv_nn o1) (vv_nn o2) hB h2 (by omega)
    have o1' : ok 1 (qu_it f z g p (n + 1)).1 := by rw [ER]; exact fr_ok a.2 (by decide) d.1
    have nn := vv_nn o1'
    refine ⟨⟨by rw [ER]; exact a.1, o1', by rw [ER]; exact fr_ok a.2 (by decide) (fr_ok d.2.1 (by decide) (fr_ok m.2.1 (by decide) o2)), ?_, ?_, fun h => absurd h (by omega)⟩, fun h => b4 (by omega)⟩
    · rw [ER, fr_vv a.2 (by decide), fr_vv d.2.1 (by decide), fr_vv m.2.1 (by decide)]; exact h2
    · by_cases e : n = 0
      · have := h10 e; omega
      · have := b4 (by omega); omega
theorem qu_stop {f : Nat} {z : Int32} {g p : Nat → Int64} (hf : f ≤ 18) (o8 : ok 8 g) (hX : vv 8 g 24 ≤ 2 * 1000000 ^ f) : ¬ md_no 1 (qu_it f z g p 701).1 24 = 0 := by
  have hi := fun k h => qu_inv (z := z) (p := p) hf o8 hX k h
  refine (no_ok (hi 701 (by decide)).1.2.1).mpr (st_zero (t := fun n' => vv 1 (qu_it f z g p (n' + 1)).1 24) (fun n' hn' => vv_nn (hi (n' + 1) (by omega)).1.2.1) (fun n' hn' => ?_) (vv_tp (hi 1 (by omega)).1.2.1))
  exact (hi (n' + 2) (by omega)).2 (by omega)
