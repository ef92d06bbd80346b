/-! the reference's series stop: raised, angleOfOne, angleOf, quarter -/
theorem pw_one {f : Nat} (hf : f ≤ 23) : (1000000 : Int) ^ f * 1000000 ≤ 1000000 ^ 24 := by
  have : (1000000 : Int) ^ 24 = 1000000 ^ (23 - f) * (1000000 ^ f * 1000000) := by rw [← Int.pow_succ, ← Int.pow_add]; congr 1; omega
  rw [this]
  have h2 := pw_pos (23 - f)
  have h3 : (0 : Int) ≤ 1000000 ^ f * 1000000 := Int.mul_nonneg (Int.le_of_lt (pw_pos f)) (by decide)
  have := Int.mul_le_mul_of_nonneg_right (show (1 : Int) ≤ 1000000 ^ (23 - f) by omega) h3
  omega
theorem wh_room {f : Nat} {v : Int} (hf : f ≤ 20) (h0 : 0 ≤ v) (hv : v ≤ 1000000000000) : v * 1000000 ^ f < 1000000 ^ 24 := by
  have h1 := pw_one (f := f + 3) (by omega)
  have h2 : (1000000 : Int) ^ (f + 3) = 1000000 ^ f * 1000000000000000000 := by rw [Int.pow_add]; rfl
  have h3 := Int.mul_le_mul_of_nonneg_right hv (Int.le_of_lt (pw_pos f))
  have := pw_pos f
  generalize (1000000 : Int) ^ f = B at *
  generalize (1000000 : Int) ^ 24 = P at *
  omega
/-- ratio: rounded down -/
theorem rat_ok {f r : Nat} {v q : Int64} {g : Nat → Int64} (hf : f ≤ 20) (hv : 0 ≤ v.toInt) (hv2 : v.toInt ≤ 1000000000000) (hq : 0 < q.toInt) (hq2 : q.toInt ≤ 9000000000000) : ok r (mr_by r q (mr_wh f r v g)) ∧ fr r g (mr_by r q (mr_wh f r v g)) ∧ vv r (mr_by r q (mr_wh f r v g)) 24 = v.toInt * 1000000 ^ f / q.toInt := by
  have w := wh_ok (f := f) (r := r) (v := v) (g := g) (by omega) hv (wh_room hf hv hv2)
  have d := by_ok (r := r) (q := q) w.1 hq hq2
  exact ⟨d.1, fr_tr w.2.1 d.2.1, by rw [d.2.2, w.2.2]⟩
theorem dv_ratio {v q B : Int} (hv : 0 ≤ v) (hq : 0 < q) (hB : 0 < B) (h2 : 2 * v ≤ q) : 0 ≤ v * B / q ∧ 2 * (v * B / q) ≤ B := by
  have h1 := Int.ediv_mul_le (v * B) (b := q) (by omega)
  have h3 := Int.mul_le_mul_of_nonneg_right h2 (Int.le_of_lt hB)
  have h0 := Int.ediv_nonneg (Int.mul_nonneg hv (Int.le_of_lt hB)) (Int.le_of_lt hq)
  refine ⟨h0, ?_⟩
  generalize v * B / q = d at *
  have e1 : 2 * v * B = 2 * (v * B) := by grind
  have e2 : 2 * d * q = 2 * (d * q) := by grind
  have h4 : 2 * d * q ≤ B * q := by
    have : B * q = q * B := Int.mul_comm _ _
    omega
  exact Int.le_of_mul_le_mul_right h4 hq
/-! raised -/
theorem ra_inv {f : Nat} {v q : Int64} {g p : Nat → Int64} (hf : f ≤ 20) (hv : 0 ≤ v.toInt) (hv2 : v.toInt ≤ 1000000000000) (hq : 0 < q.toInt) (hq2 : q.toInt ≤ 9000000000000) (h2 : 2 * v.toInt ≤ q.toInt) : ∀ n, n ≤ 800 →
    (ok 0 (ra_it f v q g p n).1 ∧ ok 1 (ra_it f v q g p n).1 ∧ ok 2 (ra_it f v q g p n).1 ∧ 2 * vv 2 (ra_it f v q g p n).1 24 ≤ 1000000 ^ f)
  | 0, _ => by
    have rt := rat_ok (f := f) (r := 1) (g := g) hf hv hv2 hq hq2
    have c := cp_ok (r := 0) (a := 1) (by decide) rt.1
    have hh := dv_ratio hv hq (pw_pos f) h2
    have o1 := fr_ok c.2.1 (s := 1) (by decide) rt.1
    have e1 : vv 1 (mr_cp 0 1 (mr_by 1 q (mr_wh f 1 v g))) 24 = v.toInt * 1000000 ^ f / q.toInt := by rw [fr_vv c.2.1 (by decide), rt.2.2]
    have m := mul_ok (f := f) (r := 2) (a := 1) (b := 1) (p := p) (by omega) o1 o1 (mul_room (vv_nn o1) (vv_tp o1) (by rw [e1]; have := hh.1; have := hh.2; omega) (vv_nn o1))
    refine ⟨fr_ok m.2.1 (by decide) c.1, fr_ok m.2.1 (by decide) o1, m.1, ?_⟩
    show 2 * vv 2 (mr_mul f 2 1 1 (mr_cp 0 1 (mr_by 1 q (mr_wh f 1 v g))) p) 24 ≤ _
    rw [m.2.2, e1]
    have := dv_half hh.1 (pw_pos f) hh.2
    have := hh.1; have := hh.2
    omega
  | n + 1, h => by
    obtain ⟨o0, o1, o2, e2⟩ := ra_inv (p := p) (g := g) hf hv hv2 hq hq2 h2 n (by omega)
    have m := mul_ok (f := f) (r := 1) (a := 1) (b := 2) (p := (ra_it f v q g p n).2) (by omega) o1 o2 (mul_room (vv_nn o1) (vv_tp o1) (by have := vv_nn o2; omega) (vv_nn o2))
    have c := cp_ok (r := 5) (a := 1) (by decide) m.1
    have hq : (nI (3 + 2 * n)).toInt64.toInt = ((3 + 2 * n : Nat) : Int) := nI_L (by omega)
    have d := by_ok (r := 5) (q := (nI (3 + 2 * n)).toInt64) c.1 (by omega) (by omega)
    have o0' := fr_ok d.2.1 (s := 0) (by decide) (fr_ok c.2.1 (by decide) (fr_ok m.2.1 (by decide) o0))
    have a := add_ok (r := 0) (a := 5) (by decide) o0' d.1
    refine ⟨a.1, fr_ok a.2.1 (by decide) (fr_ok d.2.1 (by decide) (fr_ok c.2.1 (by decide) m.1)), fr_ok a.2.1 (by decide) (fr_ok d.2.1 (by decide) (fr_ok c.2.1 (by decide) (fr_ok m.2.1 (by decide) o2))), ?_⟩
    show 2 * vv 2 (mr_add 0 5 (mr_by 5 (nI (3 + 2 * n)).toInt64 (mr_cp 5 1 (mr_mul f 1 1 2 (ra_it f v q g p n).1 (ra_it f v q g p n).2)))) 24 ≤ _
    rw [fr_vv a.2.1 (by decide), fr_vv d.2.1 (by decide), fr_vv c.2.1 (by decide), fr_vv m.2.1 (by decide)]
    exact e2
theorem ra_stop {f : Nat} {v q : Int64} {g p : Nat → Int64} (hf : f ≤ 20) (hv : 0 ≤ v.toInt) (hv2 : v.toInt ≤ 1000000000000) (hq : 0 < q.toInt) (hq2 : q.toInt ≤ 9000000000000) (h2 : 2 * v.toInt ≤ q.toInt) : ¬ md_no 1 (ra_it f v q g p 700).1 24 = 0 := by
  have hi := fun n h => ra_inv (p := p) (g := g) hf hv hv2 hq hq2 h2 n h
  refine (no_ok (hi 700 (by decide)).2.1).mpr (st_zero (t := fun n => vv 1 (ra_it f v q g p n).1 24) (fun n hn => vv_nn (hi n (by omega)).2.1) (fun n hn => ?_) (vv_tp (hi 0 (by omega)).2.1))
  obtain ⟨o0, o1, o2, e2⟩ := hi n (by omega)
  have m := mul_ok (f := f) (r := 1) (a := 1) (b := 2) (p := (ra_it f v q g p n).2) (by omega) o1 o2 (mul_room (vv_nn o1) (vv_tp o1) (by have := vv_nn o2; omega) (vv_nn o2))
  have c := cp_ok (r := 5) (a := 1) (by decide) m.1
  have hq : (nI (3 + 2 * n)).toInt64.toInt = ((3 + 2 * n : Nat) : Int) := nI_L (by omega)
  have d := by_ok (r := 5) (q := (nI (3 + 2 * n)).toInt64) c.1 (by omega) (by omega)
  have o0' := fr_ok d.2.1 (s := 0) (by decide) (fr_ok c.2.1 (by decide) (fr_ok m.2.1 (by decide) o0))
  have a := add_ok (r := 0) (a := 5) (by decide) o0' d.1
  show 2 * vv 1 (mr_add 0 5 (mr_by 5 (nI (3 + 2 * n)).toInt64 (mr_cp 5 1 (mr_mul f 1 1 2 (ra_it f v q g p n).1 (ra_it f v q g p n).2)))) 24 ≤ _
  rw [fr_vv a.2.1 (by decide), fr_vv d.2.1 (by decide), fr_vv c.2.1 (by decide), m.2.2]
  exact dv_half (vv_nn o1) (pw_pos f) e2
/-! angleOfOne -/
theorem ao_as_ok {r : Nat} {q : Int32} {g : Nat → Int64} (ne : 5 ≠ r) (o0 : ok r g) (o1 : ok 5 g) : ok r (ao_as r q g) ∧ fr r g (ao_as r q g) ∧ (vv r g 24 + vv 5 g 24 < 1000000 ^ 24 → vv 5 g 24 ≤ vv r g 24 → vv r g 24 - vv 5 g 24 ≤ vv r (ao_as r q g) 24 ∧ vv r (ao_as r q g) 24 ≤ vv r g 24 + vv 5 g 24) := by
  have ha := add_ok (r := r) (a := 5) ne o0 o1
  have hl := les_ok (r := r) (a := 5) ne o0 o1
  have := vv_nn o1
  unfold ao_as
  by_cases e : q - q / 4 * 4 = 3
  · rw [if_pos e]; exact ⟨hl.1, hl.2.1, fun h1 h2 => by rw [hl.2.2 h2]; omega⟩
  · rw [if_neg e]; exact ⟨ha.1, ha.2.1, fun h1 h2 => by rw [ha.2.2 h1]; omega⟩
/-- term T, its start T0, the sum between: 72 |S - T0| at most T0 - T (n at least 5) -/
theorem ao_inv {f r : Nat} {n o : Int64} {g : Nat → Int64} (hf : f ≤ 20) (hr : r ≠ 1 ∧ r ≠ 5) (hn : 5 ≤ n.toInt) (hn2 : n.toInt ≤ 1000) (ho : 0 ≤ o.toInt) (ho2 : o.toInt ≤ 100) : ∀ k, k ≤ 800 →
    (ok r (ao_it f r n o g k) ∧ ok 1 (ao_it f r n o g k) ∧ (0 < k → ok 5 (ao_it f r n o g k)) ∧ 72 * (vv r (ao_it f r n o g k) 24 - o.toInt * 1000000 ^ f / n.toInt) ≤ o.toInt * 1000000 ^ f / n.toInt - vv 1 (ao_it f r n o g k) 24 ∧ 72 * (o.toInt * 1000000 ^ f / n.toInt - vv r (ao_it f r n o g k) 24) ≤ o.toInt * 1000000 ^ f / n.toInt - vv 1 (ao_it f r n o g k) 24) ∧ (0 < k → 25 * vv 1 (ao_it f r n o g k) 24 ≤ vv 1 (ao_it f r n o g (k - 1)) 24)
  | 0, _ => by
    have rt := rat_ok (f := f) (r := 1) (v := o) (q := n) (g := g) hf ho (by omega) (by omega) (by omega)
    have c := cp_ok (r := r) (a := 1) (fun q => hr.1 q.symm) rt.1
    have e1 : vv 1 (ao_it f r n o g 0) 24 = o.toInt * 1000000 ^ f / n.toInt := by
      show vv 1 (mr_cp r 1 (mr_by 1 n (mr_wh f 1 o g))) 24 = _
      rw [fr_vv c.2.1 (fun q => hr.1 q.symm), rt.2.2]
    have e2 : vv r (ao_it f r n o g 0) 24 = o.toInt * 1000000 ^ f / n.toInt := by
      show vv r (mr_cp r 1 (mr_by 1 n (mr_wh f 1 o g))) 24 = _
      rw [c.2.2, rt.2.2]
    exact ⟨⟨c.1, fr_ok c.2.1 (fun q => hr.1 q.symm) rt.1, fun h => absurd h (by omega), by omega, by omega⟩, fun h => absurd h (by omega)⟩
  | k + 1, h => by
    obtain ⟨⟨o0, o1, -, h3, h4⟩, -⟩ := ao_inv (g := g) hf hr hn hn2 ho ho2 k (by omega)
    have hnn : (n * n).toInt = n.toInt * n.toInt := tI_mul (by have := Int.mul_nonneg (show 0 ≤ n.toInt by omega) (show 0 ≤ n.toInt by omega); omega) (by have := Int.mul_le_mul hn2 hn2 (by omega) (by omega); omega)
    have hn3 : 25 ≤ n.toInt * n.toInt := by have := Int.mul_le_mul hn hn (by omega) (by omega); omega
    have hn4 : n.toInt * n.toInt ≤ 1000000 := by have := Int.mul_le_mul hn2 hn2 (by omega) (by omega); omega
    have b := by_ok (r := 1) (q := n * n) o1 (by omega) (by omega)
    have c := cp_ok (r := 5) (a := 1) (by decide) b.1
    have hq : (nI (3 + 2 * k)).toInt64.toInt = ((3 + 2 * k : Nat) : Int) := nI_L (by omega)
    have d := by_ok (r := 5) (q := (nI (3 + 2 * k)).toInt64) c.1 (by omega) (by omega)
    have o0' := fr_ok d.2.1 (s := r) hr.2 (fr_ok c.2.1 hr.2 (fr_ok b.2.1 hr.1 o0))
    have a := ao_as_ok (q := nI (3 + 2 * k)) (fun q => hr.2 q.symm) o0' d.1
    have o1' := fr_ok a.2.1 (s := 1) (fun q => hr.1 q.symm) (fr_ok d.2.1 (by decide) (fr_ok c.2.1 (by decide) b.1))
    have E0 : vv r (mr_by 5 (nI (3 + 2 * k)).toInt64 (mr_cp 5 1 (mr_by 1 (n * n) (ao_it f r n o g k)))) 24 = vv r (ao_it f r n o g k) 24 := by
      rw [fr_vv d.2.1 hr.2, fr_vv c.2.1 hr.2, fr_vv b.2.1 hr.1]
    have E5 : vv 5 (mr_by 5 (nI (3 + 2 * k)).toInt64 (mr_cp 5 1 (mr_by 1 (n * n) (ao_it f r n o g k)))) 24 = vv 1 (ao_it f r n o g k) 24 / (n.toInt * n.toInt) / ((3 + 2 * k : Nat) : Int) := by
      rw [d.2.2, c.2.2, b.2.2, hnn, hq]
    have E1 : vv 1 (ao_it f r n o g (k + 1)) 24 = vv 1 (ao_it f r n o g k) 24 / (n.toInt * n.toInt) := by
      show vv 1 (ao_as r (nI (3 + 2 * k)) (mr_by 5 (nI (3 + 2 * k)).toInt64 (mr_cp 5 1 (mr_by 1 (n * n) (ao_it f r n o g k))))) 24 = _
      rw [fr_vv a.2.1 (fun q => hr.1 q.symm), fr_vv d.2.1 (by decide), fr_vv c.2.1 (by decide), b.2.2, hnn]
    have hB := pw_pos f
    have T0 : 0 ≤ o.toInt * 1000000 ^ f / n.toInt ∧ o.toInt * 1000000 ^ f / n.toInt ≤ 100 * 1000000 ^ f := by
      have p1 := Int.mul_le_mul_of_nonneg_right ho2 (Int.le_of_lt hB)
      have p2 := dv_le (d := o.toInt * 1000000 ^ f) (q := n.toInt) (Int.mul_nonneg ho (Int.le_of_lt hB)) (by omega)
      omega
    have hroom := wh_room (f := f) (v := 1000) hf (by decide) (by decide)
    have hT := vv_nn o1
    have t1 := dv_le (d := vv 1 (ao_it f r n o g k) 24) (q := n.toInt * n.toInt) hT (by omega)
    have t25 : 25 * (vv 1 (ao_it f r n o g k) 24 / (n.toInt * n.toInt)) ≤ vv 1 (ao_it f r n o g k) 24 := by
      have p1 := Int.ediv_mul_le (vv 1 (ao_it f r n o g k) 24) (b := n.toInt * n.toInt) (by omega)
      have p2 := Int.mul_le_mul_of_nonneg_left hn3 t1.1
      omega
    have t3 : 3 * (vv 1 (ao_it f r n o g k) 24 / (n.toInt * n.toInt) / ((3 + 2 * k : Nat) : Int)) ≤ vv 1 (ao_it f r n o g k) 24 / (n.toInt * n.toInt) ∧ 0 ≤ vv 1 (ao_it f r n o g k) 24 / (n.toInt * n.toInt) / ((3 + 2 * k : Nat) : Int) := by
      have p0 := dv_le (d := vv 1 (ao_it f r n o g k) 24 / (n.toInt * n.toInt)) (q := ((3 + 2 * k : Nat) : Int)) t1.1 (by omega)
      have p1 := Int.ediv_mul_le (vv 1 (ao_it f r n o g k) 24 / (n.toInt * n.toInt)) (b := ((3 + 2 * k : Nat) : Int)) (by omega)
      have p2 := Int.mul_le_mul_of_nonneg_left (show (3 : Int) ≤ ((3 + 2 * k : Nat) : Int) by omega) p0.1
      omega
    have hs := a.2.2
    rw [E0, E5] at hs
    have ER : ao_it f r n o g (k + 1) = ao_as r (nI (3 + 2 * k)) (mr_by 5 (nI (3 + 2 * k)).toInt64 (mr_cp 5 1 (mr_by 1 (n * n) (ao_it f r n o g k)))) := rfl
    rw [← ER] at hs
    refine ⟨⟨by rw [ER]; exact a.1, by rw [ER]; exact o1', fun _ => by rw [ER]; exact fr_ok a.2.1 (fun q => hr.2 q.symm) d.1, ?_, ?_⟩, fun _ => ?_⟩
    · rw [E1]
      generalize vv 1 (ao_it f r n o g k) 24 / (n.toInt * n.toInt) / ((3 + 2 * k : Nat) : Int) = O at *
      generalize vv 1 (ao_it f r n o g k) 24 / (n.toInt * n.toInt) = T' at *
      generalize vv 1 (ao_it f r n o g k) 24 = T at *
      generalize vv r (ao_it f r n o g k) 24 = S at *
      generalize vv r (ao_it f r n o g (k + 1)) 24 = S' at *
      generalize o.toInt * 1000000 ^ f / n.toInt = Z at *
      generalize (1000000 : Int) ^ 24 = P at *
      generalize (1000000 : Int) ^ f = B at *
      have := hs (by omega) (by omega)
      omega
    · rw [E1]
      generalize vv 1 (ao_it f r n o g k) 24 / (n.toInt * n.toInt) / ((3 + 2 * k : Nat) : Int) = O at *
      generalize vv 1 (ao_it f r n o g k) 24 / (n.toInt * n.toInt) = T' at *
      generalize vv 1 (ao_it f r n o g k) 24 = T at *
      generalize vv r (ao_it f r n o g k) 24 = S at *
      generalize vv r (ao_it f r n o g (k + 1)) 24 = S' at *
      generalize o.toInt * 1000000 ^ f / n.toInt = Z at *
      generalize (1000000 : Int) ^ 24 = P at *
      generalize (1000000 : Int) ^ f = B at *
      have := hs (by omega) (by omega)
      omega
    · rw [E1]; exact t25
theorem ao_stop {f r : Nat} {n o : Int64} {g : Nat → Int64} (hf : f ≤ 20) (hr : r ≠ 1 ∧ r ≠ 5) (hn : 5 ≤ n.toInt) (hn2 : n.toInt ≤ 1000) (ho : 0 ≤ o.toInt) (ho2 : o.toInt ≤ 100) : ¬ md_no 1 (ao_it f r n o g 700) 24 = 0 := by
  have hi := fun k h => ao_inv (g := g) hf hr hn hn2 ho ho2 k h
  refine (no_ok (hi 700 (by decide)).1.2.1).mpr (st_zero (t := fun n' => vv 1 (ao_it f r n o g n') 24) (fun n' hn' => vv_nn (hi n' (by omega)).1.2.1) (fun n' hn' => ?_) (vv_tp (hi 0 (by omega)).1.2.1))
  have h1 := (hi (n' + 1) (by omega)).2 (by omega)
  have h2 := vv_nn (hi (n' + 1) (by omega)).1.2.1
  have h3 : n' + 1 - 1 = n' := rfl
  rw [h3] at h1
  show 2 * vv 1 (ao_it f r n o g (n' + 1)) 24 ≤ vv 1 (ao_it f r n o g n') 24
  omega
