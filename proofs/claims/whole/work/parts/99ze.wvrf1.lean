/-! waves: the reference's pi -/
theorem les_mod {r a : Nat} {g : Nat → Int64} (ne : a ≠ r) (o : ok r g) (oa : ok a g) : vv r (mr_les r a g) 24 = (vv r g 24 - vv a g 24) % 1000000 ^ 24 := by
  obtain ⟨h1, h2, h3, h4, h5⟩ := les_inv ne o oa 24 (Nat.le_refl _)
  unfold mr_les
  rw [ir_eq]
  have ho : ok r (md_les r a g 24).1 := h1
  have hv := vv_bd ho 24 (Nat.le_refl _)
  generalize (md_les r a g 24).2.toInt = c at *
  generalize vv r (md_les r a g 24).1 24 = x at *
  generalize vv r g 24 - vv a g 24 = d at *
  generalize (1000000 : Int) ^ 24 = P at *
  have e : d = x + P * (-c) := by grind
  rw [e, Int.add_mul_emod_self_left, Int.emod_eq_of_lt hv.1 hv.2]
theorem add_mod {r a : Nat} {g : Nat → Int64} (ne : a ≠ r) (o : ok r g) (oa : ok a g) : vv r (mr_add r a g) 24 = (vv r g 24 + vv a g 24) % 1000000 ^ 24 := by
  obtain ⟨h1, h2, h3, h4, h5⟩ := add_inv ne o oa 24 (Nat.le_refl _)
  unfold mr_add
  rw [ir_eq]
  have ho : ok r (md_add r a g 24).1 := h1
  have hv := vv_bd ho 24 (Nat.le_refl _)
  generalize (md_add r a g 24).2.toInt = c at *
  generalize vv r (md_add r a g 24).1 24 = x at *
  generalize vv r g 24 + vv a g 24 = d at *
  generalize (1000000 : Int) ^ 24 = P at *
  have e : d = x + P * c := by grind
  rw [e, Int.add_mul_emod_self_left, Int.emod_eq_of_lt hv.1 hv.2]
def aT (B n o : Int) : Nat → Int
  | 0 => o * B / n
  | k + 1 => aT B n o k / (n * n)
def aS (B n o : Int) : Nat → Int
  | 0 => o * B / n
  | k + 1 => if k % 2 = 0 then aS B n o k - aT B n o (k + 1) / ((3 + 2 * k : Nat) : Int) else aS B n o k + aT B n o (k + 1) / ((3 + 2 * k : Nat) : Int)
theorem odd_4 : ∀ k, k < 801 → (nI (3 + 2 * k) - nI (3 + 2 * k) / 4 * 4 = 3 ↔ k % 2 = 0) := by decide +kernel
theorem ao_fin {A S T T' O : Int} (h3 : 72 * (S - A) ≤ A - T) (h4 : 72 * (A - S) ≤ A - T) (hT : 0 ≤ T) (hTA : T ≤ A) (h25 : 25 * T' ≤ T) (h0 : 0 ≤ O) (hO : O ≤ T') : O ≤ S ∧ S + O ≤ 2 * A := by omega
theorem ao_val {f r : Nat} {n o : Int64} {g : Nat → Int64} (hf : f ≤ 18) (hr : r ≠ 1 ∧ r ≠ 5) (hn : 5 ≤ n.toInt) (hn2 : n.toInt ≤ 1000) (ho : 0 ≤ o.toInt) (ho2 : o.toInt ≤ 100) : ∀ k, k ≤ 750 →
    vv 1 (ao_it f r n o g k) 24 = aT (1000000 ^ f) n.toInt o.toInt k ∧ vv r (ao_it f r n o g k) 24 = aS (1000000 ^ f) n.toInt o.toInt k ∧ vv 1 (ao_it f r n o g k) 24 ≤ o.toInt * 1000000 ^ f / n.toInt
  | 0, _ => by
    obtain ⟨w1, w2, w3⟩ := rat_ok (f := f) (r := 1) (v := o) (q := n) (g := g) (by omega) ho (by omega) (by omega) (by omega)
    have c := cp_ok (r := r) (a := 1) (fun q => hr.1 q.symm) w1
    have E : ao_it f r n o g 0 = mr_cp r 1 (mr_by 1 n (mr_wh f 1 o g)) := rfl
    have e1 : vv 1 (ao_it f r n o g 0) 24 = o.toInt * 1000000 ^ f / n.toInt := by rw [E, fr_vv c.2.1 (fun q => hr.1 q.symm), w3]
    have e2 : vv r (ao_it f r n o g 0) 24 = o.toInt * 1000000 ^ f / n.toInt := by rw [E, c.2.2, w3]
    exact ⟨e1, e2, Int.le_of_eq e1⟩
  | k + 1, hk => by
    obtain ⟨i1, i2, i3⟩ := ao_val (g := g) hf hr hn hn2 ho ho2 k (by omega)
    obtain ⟨⟨o0, o1, -, h3, h4⟩, -⟩ := ao_inv (g := g) (show f ≤ 20 by omega) hr hn hn2 ho ho2 k (by omega)
    have enn : (n * n).toInt = n.toInt * n.toInt := tI_mul (by
      have := Int.mul_nonneg (show 0 ≤ n.toInt by omega) (show 0 ≤ n.toInt by omega)
      omega) (by
      have := Int.mul_le_mul hn2 hn2 (show 0 ≤ n.toInt by omega) (by decide)
      omega)
    have nn25 : 25 ≤ n.toInt * n.toInt := Int.mul_le_mul hn hn (by decide) (by omega)
    have nnb : n.toInt * n.toInt ≤ 1000 * 1000 := Int.mul_le_mul hn2 hn2 (by omega) (by decide)
    have d1 := by_ok (r := 1) (q := n * n) o1 (by rw [enn]; omega) (by rw [enn]; omega)
    have c := cp_ok (r := 5) (a := 1) (by decide) d1.1
    have hq : (nI (3 + 2 * k)).toInt64.toInt = ((3 + 2 * k : Nat) : Int) := nI_L (by omega)
    have d2 := by_ok (r := 5) (q := (nI (3 + 2 * k)).toInt64) c.1 (by rw [hq]; omega) (by rw [hq]; omega)
    have o0' := fr_ok d2.2.1 (s := r) hr.2 (fr_ok c.2.1 hr.2 (fr_ok d1.2.1 hr.1 o0))
    have v5 : vv 5 (mr_by 5 (nI (3 + 2 * k)).toInt64 (mr_cp 5 1 (mr_by 1 (n * n) (ao_it f r n o g k)))) 24 = aT (1000000 ^ f) n.toInt o.toInt (k + 1) / ((3 + 2 * k : Nat) : Int) := by
      rw [d2.2.2, c.2.2, d1.2.2, enn, i1, hq]; rfl
    have vr : vv r (mr_by 5 (nI (3 + 2 * k)).toInt64 (mr_cp 5 1 (mr_by 1 (n * n) (ao_it f r n o g k)))) 24 = aS (1000000 ^ f) n.toInt o.toInt k := by
      rw [fr_vv d2.2.1 hr.2, fr_vv c.2.1 hr.2, fr_vv d1.2.1 hr.1, i2]
    have v1 : vv 1 (mr_by 5 (nI (3 + 2 * k)).toInt64 (mr_cp 5 1 (mr_by 1 (n * n) (ao_it f r n o g k)))) 24 = aT (1000000 ^ f) n.toInt o.toInt (k + 1) := by
      rw [fr_vv d2.2.1 (by decide), fr_vv c.2.1 (by decide), d1.2.2, enn, i1]; rfl
    have hT : 0 ≤ vv 1 (ao_it f r n o g k) 24 := vv_nn o1
    have t0 : 0 ≤ aT (1000000 ^ f) n.toInt o.toInt (k + 1) := by
      show 0 ≤ aT (1000000 ^ f) n.toInt o.toInt k / (n.toInt * n.toInt)
      rw [← i1]; exact Int.ediv_nonneg hT (by omega)
    have t25 : 25 * aT (1000000 ^ f) n.toInt o.toInt (k + 1) ≤ vv 1 (ao_it f r n o g k) 24 := by
      have E : aT (1000000 ^ f) n.toInt o.toInt (k + 1) = aT (1000000 ^ f) n.toInt o.toInt k / (n.toInt * n.toInt) := rfl
      have p1 := Int.ediv_mul_le (aT (1000000 ^ f) n.toInt o.toInt k) (b := n.toInt * n.toInt) (by omega)
      rw [← E, ← i1] at p1
      have p2 := Int.mul_le_mul_of_nonneg_left nn25 t0
      generalize aT (1000000 ^ f) n.toInt o.toInt (k + 1) = T' at *
      generalize vv 1 (ao_it f r n o g k) 24 = T at *
      generalize n.toInt * n.toInt = N at *
      omega
    have q0 : 0 ≤ aT (1000000 ^ f) n.toInt o.toInt (k + 1) / ((3 + 2 * k : Nat) : Int) := Int.ediv_nonneg t0 (by omega)
    have q1 : aT (1000000 ^ f) n.toInt o.toInt (k + 1) / ((3 + 2 * k : Nat) : Int) ≤ aT (1000000 ^ f) n.toInt o.toInt (k + 1) := (dv_le t0 (by omega)).2
    rw [i2] at h3 h4
    obtain ⟨x1, x2⟩ := ao_fin h3 h4 hT i3 t25 q0 q1
    have a := ao_as_ok (q := nI (3 + 2 * k)) (fun q => hr.2 q.symm) o0' d2.1
    have ER : ao_it f r n o g (k + 1) = ao_as r (nI (3 + 2 * k)) (mr_by 5 (nI (3 + 2 * k)).toInt64 (mr_cp 5 1 (mr_by 1 (n * n) (ao_it f r n o g k)))) := rfl
    have e1 : vv 1 (ao_it f r n o g (k + 1)) 24 = aT (1000000 ^ f) n.toInt o.toInt (k + 1) := by rw [ER, fr_vv a.2.1 (fun q => hr.1 q.symm), v1]
    have room : aS (1000000 ^ f) n.toInt o.toInt k + aT (1000000 ^ f) n.toInt o.toInt (k + 1) / ((3 + 2 * k : Nat) : Int) < 1000000 ^ 24 := by
      have r1 := wh_room (f := f) (v := 1000) (by omega) (by decide) (by decide)
      have hA : o.toInt * 1000000 ^ f / n.toInt ≤ 100 * 1000000 ^ f := by
        have m := Int.mul_le_mul_of_nonneg_right ho2 (Int.le_of_lt (pw_pos f))
        have := (dv_le (d := o.toInt * 1000000 ^ f) (q := n.toInt) (Int.mul_nonneg ho (Int.le_of_lt (pw_pos f))) (by omega)).2
        exact Int.le_trans this m
      have hB := pw_pos f
      generalize aS (1000000 ^ f) n.toInt o.toInt k = S at *
      generalize aT (1000000 ^ f) n.toInt o.toInt (k + 1) / ((3 + 2 * k : Nat) : Int) = O at *
      generalize o.toInt * 1000000 ^ f / n.toInt = A at *
      generalize (1000000 : Int) ^ 24 = P at *
      generalize (1000000 : Int) ^ f = B at *
      omega
    have ha := (add_ok (r := r) (a := 5) (fun q => hr.2 q.symm) o0' d2.1).2.2 (by rw [v5, vr]; exact room)
    have hl := (les_ok (r := r) (a := 5) (fun q => hr.2 q.symm) o0' d2.1).2.2 (by rw [v5, vr]; exact x1)
    rw [v5, vr] at ha hl
    have e2 : vv r (ao_it f r n o g (k + 1)) 24 = aS (1000000 ^ f) n.toInt o.toInt (k + 1) := by
      rw [ER]
      have ES : aS (1000000 ^ f) n.toInt o.toInt (k + 1) = if k % 2 = 0 then aS (1000000 ^ f) n.toInt o.toInt k - aT (1000000 ^ f) n.toInt o.toInt (k + 1) / ((3 + 2 * k : Nat) : Int) else aS (1000000 ^ f) n.toInt o.toInt k + aT (1000000 ^ f) n.toInt o.toInt (k + 1) / ((3 + 2 * k : Nat) : Int) := rfl
      rw [ES]
      unfold ao_as
      by_cases h : k % 2 = 0
      · rw [if_pos h, if_pos ((odd_4 k (by omega)).mpr h)]; exact hl
      · rw [if_neg h, if_neg (fun q => h ((odd_4 k (by omega)).mp q))]; exact ha
    refine ⟨e1, e2, ?_⟩
    rw [e1]
    generalize aT (1000000 ^ f) n.toInt o.toInt (k + 1) = T' at *
    generalize vv 1 (ao_it f r n o g k) 24 = T at *
    omega
theorem aS_end {B n o : Int} {k : Nat} (h : aT B n o k = 0) : ∀ m, aT B n o (k + m) = 0 ∧ aS B n o (k + m) = aS B n o k
  | 0 => ⟨h, rfl⟩
  | m + 1 => by
    obtain ⟨a, b⟩ := aS_end h m
    have e : aT B n o (k + m + 1) = 0 := by
      show aT B n o (k + m) / (n * n) = 0
      rw [a]; exact Int.zero_ediv _
    refine ⟨e, ?_⟩
    show (if (k + m) % 2 = 0 then aS B n o (k + m) - aT B n o (k + m + 1) / _ else aS B n o (k + m) + aT B n o (k + m + 1) / _) = _
    rw [e, b, Int.zero_ediv]
    split <;> simp
def pie (f : Nat) : Int := aS (1000000 ^ f) 5 16 100 - aS (1000000 ^ f) 239 4 100
theorem aT_100 {f : Nat} (h : f = 11 ∨ f = 17) : aT (1000000 ^ f) 5 16 100 = 0 ∧ aT (1000000 ^ f) 239 4 100 = 0 ∧ aS (1000000 ^ f) 239 4 100 ≤ aS (1000000 ^ f) 5 16 100 := by
  rcases h with h | h <;> subst h <;> decide +kernel
/-- pi, as the reference has it -/
theorem pi_val {f : Nat} {g : Nat → Int64} (h : f = 11 ∨ f = 17) : vv 7 (hfr f g) 24 = pie f := by
  have hf : f ≤ 18 := by omega
  obtain ⟨z1, z2, z3⟩ := aT_100 h
  have k1 : hk1 f g ≤ 700 := sk_le (s := ao_it f 7 5 16 g) (N := 700) (by decide) (ao_stop (by omega) (by decide) (by decide) (by decide) (by decide) (by decide))
  have k2 : hk2 f g ≤ 700 := sk_le (s := ao_it f 4 239 4 (ao_it f 7 5 16 g (hk1 f g))) (N := 700) (by decide) (ao_stop (by omega) (by decide) (by decide) (by decide) (by decide) (by decide))
  obtain ⟨-, m1, n1⟩ := hf_s1 (f := f) (g := g) (by omega)
  obtain ⟨-, m2, n2⟩ := hf_s2 (f := f) (g := g) (by omega)
  unfold hfr hf_r
  generalize hk2 f g = j2 at *
  generalize hk1 f g = j1 at *
  have A := ao_val (f := f) (r := 7) (n := 5) (o := 16) (g := g) hf (by decide) (by decide) (by decide) (by decide) (by decide)
  have B := ao_val (f := f) (r := 4) (n := 239) (o := 4) (g := ao_it f 7 5 16 g j1) hf (by decide) (by decide) (by decide) (by decide) (by decide)
  have iA := ao_inv (f := f) (r := 7) (n := 5) (o := 16) (g := g) (show f ≤ 20 by omega) (by decide) (by decide) (by decide) (by decide) (by decide)
  have iB := ao_inv (f := f) (r := 4) (n := 239) (o := 4) (g := ao_it f 7 5 16 g j1) (show f ≤ 20 by omega) (by decide) (by decide) (by decide) (by decide) (by decide)
  have e5 : (5 : Int64).toInt = 5 := rfl
  have e16 : (16 : Int64).toInt = 16 := rfl
  have e239 : (239 : Int64).toInt = 239 := rfl
  have e4 : (4 : Int64).toInt = 4 := rfl
  rw [e5, e16] at A
  rw [e239, e4] at B
  have endA : aS (1000000 ^ f) 5 16 j1 = aS (1000000 ^ f) 5 16 100 := by
    have zj : aT (1000000 ^ f) 5 16 j1 = 0 := by rw [← (A j1 (by omega)).1]; exact (no_ok (iA j1 (by omega)).1.2.1).mp n1
    by_cases c : j1 ≤ 100
    · have := (aS_end zj (100 - j1)).2
      rw [show j1 + (100 - j1) = 100 by omega] at this
      exact this.symm
    · exfalso
      have q := m1 100 (by omega)
      have w := (no_ok (iA 100 (by decide)).1.2.1).mpr (by rw [(A 100 (by decide)).1]; exact z1)
      exact w q
  have endB : aS (1000000 ^ f) 239 4 j2 = aS (1000000 ^ f) 239 4 100 := by
    have zj : aT (1000000 ^ f) 239 4 j2 = 0 := by rw [← (B j2 (by omega)).1]; exact (no_ok (iB j2 (by omega)).1.2.1).mp n2
    by_cases c : j2 ≤ 100
    · have := (aS_end zj (100 - j2)).2
      rw [show j2 + (100 - j2) = 100 by omega] at this
      exact this.symm
    · exfalso
      have q := m2 100 (by omega)
      have w := (no_ok (iB 100 (by decide)).1.2.1).mpr (by rw [(B 100 (by decide)).1]; exact z2)
      exact w q
  have oa := (iA j1 (by omega)).1.1
  have ob := (iB j2 (by omega)).1.1
  obtain ⟨c1, c2⟩ := ao_fr (f := f) (r := 4) (n := 239) (o := 4) (g := ao_it f 7 5 16 g j1) (by omega) (by decide) (by decide) (by decide) (by decide) (by decide) (s := 7) (by decide) oa j2 (by omega)
  have v7 := (A j1 (by omega)).2.1
  have v4 := (B j2 (by omega)).2.1
  rw [endA] at v7
  rw [endB] at v4
  have hL := les_ok (r := 7) (a := 4) (by decide) c1 ob
  have hC := cp_ok (r := 4) (a := 7) (by decide) hL.1
  have hB := by_ok (r := 4) (q := 2) hC.1 (by decide) (by decide)
  have lv := hL.2.2 (by rw [c2, v7, v4]; exact z3)
  rw [c2, v7, v4] at lv
  rw [fr_vv hB.2.1 (by decide), fr_vv hC.2.1 (by decide), lv]
  rfl
