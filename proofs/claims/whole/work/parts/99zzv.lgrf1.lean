/-! the reference's logarithm: raised -/
def rT (B T0 st : Int) : Nat → Int
  | 0 => T0
  | n + 1 => rT B T0 st n * st / B
def rS (B T0 st : Int) : Nat → Int
  | 0 => T0
  | n + 1 => rS B T0 st n + rT B T0 st (n + 1) / ((3 + 2 * n : Nat) : Int)
theorem ra_val {f : Nat} {v q : Int64} {g p : Nat → Int64} (hf : f ≤ 20) (hv : 0 ≤ v.toInt) (hv2 : v.toInt ≤ 1000000000000) (hq : 0 < q.toInt) (hq2 : q.toInt ≤ 9000000000000) (h2 : 2 * v.toInt ≤ q.toInt) {B T0 st : Int} (hB : B = 1000000 ^ f) (hT : T0 = v.toInt * B / q.toInt) (hst : st = T0 * T0 / B) : ∀ n, n ≤ 800 →
    vv 2 (ra_it f v q g p n).1 24 = st ∧ vv 1 (ra_it f v q g p n).1 24 = rT B T0 st n ∧ vv 0 (ra_it f v q g p n).1 24 = rS B T0 st n % 1000000 ^ 24
  | 0, _ => by
    have f24 : f ≤ 24 := by omega
    subst hB
    have rt := rat_ok (f := f) (r := 1) (g := g) hf hv hv2 hq hq2
    have c := cp_ok (r := 0) (a := 1) (by decide) rt.1
    have hh := dv_ratio hv hq (pw_pos f) h2
    have o1 := fr_ok c.2.1 (s := 1) (by decide) rt.1
    have e1 : vv 1 (mr_cp 0 1 (mr_by 1 q (mr_wh f 1 v g))) 24 = T0 := by rw [fr_vv c.2.1 (by decide), rt.2.2, hT]
    have e0 : vv 0 (mr_cp 0 1 (mr_by 1 q (mr_wh f 1 v g))) 24 = T0 := by rw [c.2.2, rt.2.2, hT]
    have m := mul_ok (f := f) (r := 2) (a := 1) (b := 1) (p := p) f24 o1 o1 (mul_room (vv_nn o1) (vv_tp o1) (by rw [e1, hT]; exact le_half hh.2 (Int.le_refl _) hh.1) (vv_nn o1))
    have E : (ra_it f v q g p 0).1 = mr_mul f 2 1 1 (mr_cp 0 1 (mr_by 1 q (mr_wh f 1 v g))) p := rfl
    rw [E]
    refine ⟨by rw [m.2.2, e1, hst], by rw [fr_vv m.2.1 (by decide), e1]; rfl, ?_⟩
    rw [fr_vv m.2.1 (by decide), e0]
    have l := vv_bd c.1 24 (Nat.le_refl _)
    rw [e0] at l
    exact (Int.emod_eq_of_lt l.1 l.2).symm
  | n + 1, h => by
    have hq' : (nI (3 + 2 * n)).toInt64.toInt = ((3 + 2 * n : Nat) : Int) := nI_L (by omega)
    have hq0 : 0 < (nI (3 + 2 * n)).toInt64.toInt := by rw [hq']; omega
    have hq9 : (nI (3 + 2 * n)).toInt64.toInt ≤ 9000000000000 := by rw [hq']; omega
    have n8 : n ≤ 800 := by omega
    have f24 : f ≤ 24 := by omega
    obtain ⟨i1, i2, i3⟩ := ra_val (p := p) (g := g) hf hv hv2 hq hq2 h2 hB hT hst n n8
    subst hB
    obtain ⟨o0, o1, o2, e2⟩ := ra_inv (p := p) (g := g) hf hv hv2 hq hq2 h2 n n8
    have m := mul_ok (f := f) (r := 1) (a := 1) (b := 2) (p := (ra_it f v q g p n).2) f24 o1 o2 (mul_room (vv_nn o1) (vv_tp o1) (le_half e2 (Int.le_refl _) (vv_nn o2)) (vv_nn o2))
    have c := cp_ok (r := 5) (a := 1) (by decide) m.1
    have d := by_ok (r := 5) (q := (nI (3 + 2 * n)).toInt64) c.1 hq0 hq9
    have o0' := fr_ok d.2.1 (s := 0) (by decide) (fr_ok c.2.1 (by decide) (fr_ok m.2.1 (by decide) o0))
    have a := add_ok (r := 0) (a := 5) (by decide) o0' d.1
    have am := add_mod (r := 0) (a := 5) (by decide) o0' d.1
    have ER : (ra_it f v q g p (n + 1)).1 = mr_add 0 5 (mr_by 5 (nI (3 + 2 * n)).toInt64 (mr_cp 5 1 (mr_mul f 1 1 2 (ra_it f v q g p n).1 (ra_it f v q g p n).2))) := rfl
    have v1 : vv 1 (mr_mul f 1 1 2 (ra_it f v q g p n).1 (ra_it f v q g p n).2) 24 = rT (1000000 ^ f) T0 st (n + 1) := by rw [m.2.2, i1, i2]; rfl
    have v5 : vv 5 (mr_by 5 (nI (3 + 2 * n)).toInt64 (mr_cp 5 1 (mr_mul f 1 1 2 (ra_it f v q g p n).1 (ra_it f v q g p n).2))) 24 = rT (1000000 ^ f) T0 st (n + 1) / ((3 + 2 * n : Nat) : Int) := by rw [d.2.2, c.2.2, v1, hq']
    have v0 : vv 0 (mr_by 5 (nI (3 + 2 * n)).toInt64 (mr_cp 5 1 (mr_mul f 1 1 2 (ra_it f v q g p n).1 (ra_it f v q g p n).2))) 24 = rS (1000000 ^ f) T0 st n % 1000000 ^ 24 := by rw [fr_vv d.2.1 (by decide), fr_vv c.2.1 (by decide), fr_vv m.2.1 (by decide), i3]
    rw [v5, v0] at am
    rw [ER]
    refine ⟨by rw [fr_vv a.2.1 (by decide), fr_vv d.2.1 (by decide), fr_vv c.2.1 (by decide), fr_vv m.2.1 (by decide), i1], by rw [fr_vv a.2.1 (by decide), fr_vv d.2.1 (by decide), fr_vv c.2.1 (by decide), v1], ?_⟩
    rw [am, Int.emod_add_emod]
    rfl
theorem ra_fr {f : Nat} {v q : Int64} {g p : Nat → Int64} (hf : f ≤ 20) (hv : 0 ≤ v.toInt) (hv2 : v.toInt ≤ 1000000000000) (hq : 0 < q.toInt) (hq2 : q.toInt ≤ 9000000000000) (h2 : 2 * v.toInt ≤ q.toInt) {s : Nat} (hs : s ≠ 0 ∧ s ≠ 1 ∧ s ≠ 2 ∧ s ≠ 5) (os : ok s g) : ∀ n, n ≤ 800 → ok s (ra_it f v q g p n).1 ∧ vv s (ra_it f v q g p n).1 24 = vv s g 24
  | 0, _ => by
    have f24 : f ≤ 24 := by omega
    have rt := rat_ok (f := f) (r := 1) (g := g) hf hv hv2 hq hq2
    have c := cp_ok (r := 0) (a := 1) (by decide) rt.1
    have hh := dv_ratio hv hq (pw_pos f) h2
    have o1 := fr_ok c.2.1 (s := 1) (by decide) rt.1
    have e1 : vv 1 (mr_cp 0 1 (mr_by 1 q (mr_wh f 1 v g))) 24 = v.toInt * 1000000 ^ f / q.toInt := by rw [fr_vv c.2.1 (by decide), rt.2.2]
    have m := mul_ok (f := f) (r := 2) (a := 1) (b := 1) (p := p) f24 o1 o1 (mul_room (vv_nn o1) (vv_tp o1) (by rw [e1]; exact le_half hh.2 (Int.le_refl _) hh.1) (vv_nn o1))
    have E : (ra_it f v q g p 0).1 = mr_mul f 2 1 1 (mr_cp 0 1 (mr_by 1 q (mr_wh f 1 v g))) p := rfl
    rw [E]
    exact ⟨fr_ok m.2.1 hs.2.2.1 (fr_ok c.2.1 hs.1 (fr_ok rt.2.1 hs.2.1 os)), by rw [fr_vv m.2.1 hs.2.2.1, fr_vv c.2.1 hs.1, fr_vv rt.2.1 hs.2.1]⟩
  | n + 1, h => by
    have hq' : (nI (3 + 2 * n)).toInt64.toInt = ((3 + 2 * n : Nat) : Int) := nI_L (by omega)
    have hq0 : 0 < (nI (3 + 2 * n)).toInt64.toInt := by rw [hq']; omega
    have hq9 : (nI (3 + 2 * n)).toInt64.toInt ≤ 9000000000000 := by rw [hq']; omega
    have n8 : n ≤ 800 := by omega
    have f24 : f ≤ 24 := by omega
    obtain ⟨i1, i2⟩ := ra_fr (p := p) (g := g) hf hv hv2 hq hq2 h2 hs os n n8
    obtain ⟨o0, o1, o2, e2⟩ := ra_inv (p := p) (g := g) hf hv hv2 hq hq2 h2 n n8
    have m := mul_ok (f := f) (r := 1) (a := 1) (b := 2) (p := (ra_it f v q g p n).2) f24 o1 o2 (mul_room (vv_nn o1) (vv_tp o1) (le_half e2 (Int.le_refl _) (vv_nn o2)) (vv_nn o2))
    have c := cp_ok (r := 5) (a := 1) (by decide) m.1
    have d := by_ok (r := 5) (q := (nI (3 + 2 * n)).toInt64) c.1 hq0 hq9
    have o0' := fr_ok d.2.1 (s := 0) (by decide) (fr_ok c.2.1 (by decide) (fr_ok m.2.1 (by decide) o0))
    have a := add_ok (r := 0) (a := 5) (by decide) o0' d.1
    have ER : (ra_it f v q g p (n + 1)).1 = mr_add 0 5 (mr_by 5 (nI (3 + 2 * n)).toInt64 (mr_cp 5 1 (mr_mul f 1 1 2 (ra_it f v q g p n).1 (ra_it f v q g p n).2))) := rfl
    rw [ER]
    exact ⟨fr_ok a.2.1 hs.1 (fr_ok d.2.1 hs.2.2.2 (fr_ok c.2.1 hs.2.2.2 (fr_ok m.2.1 hs.2.1 i1))), by rw [fr_vv a.2.1 hs.1, fr_vv d.2.1 hs.2.2.2, fr_vv c.2.1 hs.2.2.2, fr_vv m.2.1 hs.2.1, i2]⟩
theorem rT_nn {B T0 st : Int} (hB : 0 < B) (h0 : 0 ≤ T0) (hs : 0 ≤ st) : ∀ n, 0 ≤ rT B T0 st n
  | 0 => h0
  | n + 1 => Int.ediv_nonneg (Int.mul_nonneg (rT_nn hB h0 hs n) hs) (Int.le_of_lt hB)
theorem rS_nn {B T0 st : Int} (hB : 0 < B) (h0 : 0 ≤ T0) (hs : 0 ≤ st) : ∀ n, 0 ≤ rS B T0 st n
  | 0 => h0
  | n + 1 => by
    have a := rS_nn hB h0 hs n
    have b := Int.ediv_nonneg (rT_nn hB h0 hs (n + 1)) (show (0 : Int) ≤ ((3 + 2 * n : Nat) : Int) by omega)
    show 0 ≤ rS B T0 st n + rT B T0 st (n + 1) / ((3 + 2 * n : Nat) : Int)
    omega
theorem oE_110 : oE 110 + 1 ≤ 200 := by decide +kernel
/-- the sum that raised has at its end -/
theorem ra_sum {f : Nat} {v q : Int64} {g p : Nat → Int64} (hf : f = 11 ∨ f = 17) (hv : 0 ≤ v.toInt) (hv2 : v.toInt ≤ 1000000000000) (hq : 0 < q.toInt) (hq2 : q.toInt ≤ 9000000000000) (h3 : 3 * v.toInt ≤ q.toInt) {k : Nat} (k1 : ∀ i, i < k → md_no 1 (ra_it f v q g p i).1 24 = 0) (k2 : ¬ md_no 1 (ra_it f v q g p k).1 24 = 0) :
    k ≤ 110 ∧ ok 0 (ra_it f v q g p k).1 ∧ 0 ≤ vv 0 (ra_it f v q g p k).1 24 ∧ ∃ z : Rat, (((1000000 : Int) ^ f : Int) : Rat) * z = ((v.toInt * 1000000 ^ f / q.toInt : Int) : Rat) ∧ 0 ≤ z ∧ z ≤ 1/3 ∧ nb ((vv 0 (ra_it f v q g p k).1 24 : Rat) - (((1000000 : Int) ^ f : Int) : Rat) * oS 1 z 400) 200 := by
  have f20 : f ≤ 20 := by omega
  have hB := pw_pos f
  have h2 : 2 * v.toInt ≤ q.toInt := by omega
  obtain ⟨t0, t1⟩ := dv_ratio hv hq hB h2
  have VAL := ra_val (p := p) (g := g) f20 hv hv2 hq hq2 h2 rfl rfl rfl
  have INV := ra_inv (p := p) (g := g) f20 hv hv2 hq hq2 h2
  have T3 : 3 * (v.toInt * 1000000 ^ f / q.toInt) ≤ 1000000 ^ f := by
    have a1 := Int.ediv_mul_le (v.toInt * 1000000 ^ f) (b := q.toInt) (by omega)
    have a2 := Int.mul_le_mul_of_nonneg_right h3 (Int.le_of_lt hB)
    generalize v.toInt * 1000000 ^ f / q.toInt = T at *
    have e1 : 3 * v.toInt * 1000000 ^ f = 3 * (v.toInt * 1000000 ^ f) := by grind
    have e2 : 3 * T * q.toInt = 3 * (T * q.toInt) := by grind
    have e3 : q.toInt * 1000000 ^ f = 1000000 ^ f * q.toInt := Int.mul_comm _ _
    exact Int.le_of_mul_le_mul_right (show 3 * T * q.toInt ≤ 1000000 ^ f * q.toInt by omega) hq
  generalize v.toInt * 1000000 ^ f / q.toInt = T0 at *
  have s0 : 0 ≤ T0 * T0 / 1000000 ^ f := Int.ediv_nonneg (Int.mul_nonneg t0 t0) (Int.le_of_lt hB)
  have Tn := rT_nn hB t0 s0
  have Sn := rS_nn hB t0 s0
  have sq := rd_le (p := T0 * T0) hB
  rw [Rat.intCast_mul] at sq
  have hBr : (0 : Rat) < (((1000000 : Int) ^ f : Int) : Rat) := by
    have : ((0 : Int) : Rat) < (((1000000 : Int) ^ f : Int) : Rat) := Rat.intCast_lt_intCast.mpr hB
    simpa using this
  have T0r : (0 : Rat) ≤ (T0 : Rat) := by
    have : ((0 : Int) : Rat) ≤ (T0 : Rat) := Rat.intCast_le_intCast.mpr t0
    simpa using this
  have T3r : 3 * (T0 : Rat) ≤ (((1000000 : Int) ^ f : Int) : Rat) := by
    have : ((3 * T0 : Int) : Rat) ≤ (((1000000 : Int) ^ f : Int) : Rat) := Rat.intCast_le_intCast.mpr T3
    rw [Rat.intCast_mul] at this
    have e : ((3 : Int) : Rat) = 3 := by simp
    rw [e] at this; exact this
  obtain ⟨z, hz⟩ : ∃ z : Rat, (((1000000 : Int) ^ f : Int) : Rat) * z = (T0 : Rat) := ⟨(T0 : Rat) / (((1000000 : Int) ^ f : Int) : Rat), by
    have : (((1000000 : Int) ^ f : Int) : Rat) ≠ 0 := by grind
    generalize (((1000000 : Int) ^ f : Int) : Rat) = B at *
    grind⟩
  have z0 : 0 ≤ z := mul_cancel_le hBr (by grind)
  have z3 : z ≤ 1/3 := mul_cancel_le hBr (by grind)
  have stp : ∀ i, rT (1000000 ^ f) T0 (T0 * T0 / 1000000 ^ f) (i + 1) = rT (1000000 ^ f) T0 (T0 * T0 / 1000000 ^ f) i * (T0 * T0 / 1000000 ^ f) / 1000000 ^ f := fun _ => rfl
  have ssp : ∀ i, rS (1000000 ^ f) T0 (T0 * T0 / 1000000 ^ f) (i + 1) = rS (1000000 ^ f) T0 (T0 * T0 / 1000000 ^ f) i + rT (1000000 ^ f) T0 (T0 * T0 / 1000000 ^ f) (i + 1) / ((3 + 2 * i : Nat) : Int) := fun _ => rfl
  have st0 : rT (1000000 ^ f) T0 (T0 * T0 / 1000000 ^ f) 0 = T0 := rfl
  have ss0 : rS (1000000 ^ f) T0 (T0 * T0 / 1000000 ^ f) 0 = T0 := rfl
  generalize T0 * T0 / 1000000 ^ f = st at *
  generalize rT (1000000 ^ f) T0 st = T at *
  generalize rS (1000000 ^ f) T0 st = S at *
  have str : (0 : Rat) ≤ (st : Rat) := by
    have : ((0 : Int) : Rat) ≤ (st : Rat) := Rat.intCast_le_intCast.mpr s0
    simpa using this
  rw [← hz] at sq
  have seq := os_seq (U := (((1000000 : Int) ^ f : Int) : Rat)) (z := z) (f := (st : Rat)) (a := 1) (T := fun i => (T i : Rat)) (S := fun i => (S i : Rat)) (Q := fun i => ((T i / ((2 * i + 1 : Nat) : Int) : Int) : Rat)) (m := 800) (Or.inl rfl) hBr z0 z3 str (by
      generalize (((1000000 : Int) ^ f : Int) : Rat) = B at *
      exact mul_cancel_le hBr (by grind)) (by
      generalize (((1000000 : Int) ^ f : Int) : Rat) = B at *
      exact mul_cancel_le hBr (by grind)) (by show (T 0 : Rat) = _; rw [st0, hz]) (by show (S 0 : Rat) = _; rw [ss0, hz]) (fun i _ => by
      obtain ⟨d1, d2⟩ := rd_le (p := T i * st) hB
      rw [Rat.intCast_mul] at d1 d2
      rw [← stp i] at d1 d2
      have t0' : (0 : Rat) ≤ (T i : Rat) := by
        have : ((0 : Int) : Rat) ≤ (T i : Rat) := Rat.intCast_le_intCast.mpr (Tn i)
        simpa using this
      show 0 ≤ (T i : Rat) ∧ (((1000000 : Int) ^ f : Int) : Rat) * (T (i + 1) : Rat) ≤ (T i : Rat) * (st : Rat) ∧ (T i : Rat) * (st : Rat) ≤ (((1000000 : Int) ^ f : Int) : Rat) * (T (i + 1) : Rat) + (((1000000 : Int) ^ f : Int) : Rat) * 5
      refine ⟨t0', d1, ?_⟩
      grind) (fun i _ => by
      have d := rd_le (p := T (i + 1)) (q := ((2 * i + 3 : Nat) : Int)) (by omega)
      exact d) (fun i _ => by
      show (S (i + 1) : Rat) = (S i : Rat) + 1 ^ (i + 1) * ((T (i + 1) / ((2 * (i + 1) + 1 : Nat) : Int) : Int) : Rat)
      rw [ssp i, Rat.intCast_add, rp_one, show 2 * (i + 1) + 1 = 3 + 2 * i by omega]
      grind)
  have zk : T 110 = 0 := by
    have s1 := (seq 110 (by decide)).1
    have s1' : (T 110 : Rat) ≤ (((1000000 : Int) ^ f : Int) : Rat) * z ^ (2 * 110 + 1) := s1
    have s2 := rp_le z0 z3 (2 * 110 + 1)
    have lt : (T 110 : Rat) < ((1 : Int) : Rat) := by
      have e1 : ((1 : Int) : Rat) = 1 := rfl
      rw [e1]
      have m := Rat.mul_le_mul_of_nonneg_left s2 (Rat.le_of_lt hBr)
      have n : (((1000000 : Int) ^ f : Int) : Rat) * (1/3) ^ (2 * 110 + 1) < 1 := by rcases hf with h | h <;> subst h <;> decide +kernel
      grind
    have := Rat.intCast_lt_intCast.mp lt
    have := Tn 110
    omega
  have kk : k ≤ 110 := by
    by_cases c : k ≤ 110
    · exact c
    · exfalso
      have q := k1 110 (Nat.lt_of_not_le c)
      have w := (no_ok (INV 110 (by decide)).2.1).mpr (by rw [(VAL 110 (by decide)).2.1]; exact zk)
      exact w q
  have k8 : k ≤ 800 := Nat.le_trans kk (by decide)
  obtain ⟨o0, o1, -, -⟩ := INV k k8
  have Tk : T k = 0 := by rw [← (VAL k k8).2.1]; exact (no_ok o1).mp k2
  obtain ⟨-, q2, q3⟩ := seq k k8
  have q2' : (((1000000 : Int) ^ f : Int) : Rat) * z ^ (2 * k + 1) ≤ 8 := by
    have e : (T k : Rat) = 0 := by rw [Tk]; rfl
    have q2'' : (((1000000 : Int) ^ f : Int) : Rat) * z ^ (2 * k + 1) ≤ (T k : Rat) + 8 := q2
    rw [e] at q2''
    grind
  have tl := os_tail (a := 1) (Or.inl rfl) z0 z3 k (400 - k)
  rw [Nat.add_sub_cancel' (Nat.le_trans kk (by decide))] at tl
  have p400 := rp_nn z0 (2 * 400 + 1)
  have om := oE_mono k (110 - k)
  rw [Nat.add_sub_cancel' kk] at om
  have o110 := oE_110
  have q3' : nb ((S k : Rat) - (((1000000 : Int) ^ f : Int) : Rat) * oS 1 z k) (oE k) := q3
  have mm := nb_mul (show nb (((1000000 : Int) ^ f : Int) : Rat) (((1000000 : Int) ^ f : Int) : Rat) from ⟨by grind, by grind⟩) tl
  have near : nb ((S k : Rat) - (((1000000 : Int) ^ f : Int) : Rat) * oS 1 z 400) 200 := by
    generalize (((1000000 : Int) ^ f : Int) : Rat) = U at *
    generalize oS 1 z 400 = A at *
    generalize oS 1 z k = C at *
    generalize z ^ (2 * k + 1) = P at *
    generalize z ^ (2 * 400 + 1) = Q at *
    have UQ := Rat.mul_nonneg (Rat.le_of_lt hBr) p400
    obtain ⟨x1, x2⟩ := q3'
    obtain ⟨y1, y2⟩ := mm
    constructor <;> grind
  -- no overflow
  have ob := (oS_bd (a := 1) (Or.inl rfl) z0 z3 400).2
  have Sb : S k < 1000000 ^ 24 := by
    have r : (S k : Rat) < (((1000000 : Int) ^ 24 : Int) : Rat) := by
      have n : (((1000000 : Int) ^ f : Int) : Rat) + 200 < (((1000000 : Int) ^ 24 : Int) : Rat) := by rcases hf with h | h <;> subst h <;> decide +kernel
      have m := Rat.mul_le_mul_of_nonneg_left (show oS 1 z 400 ≤ 1 by grind) (Rat.le_of_lt hBr)
      have := near.2
      grind
    exact Rat.intCast_lt_intCast.mp r
  have eV : vv 0 (ra_it f v q g p k).1 24 = S k := by
    rw [(VAL k k8).2.2, Int.emod_eq_of_lt (Sn k) Sb]
  refine ⟨kk, o0, by rw [eV]; exact Sn k, z, hz, z0, z3, ?_⟩
  rw [eV]; exact near
