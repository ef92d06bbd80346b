/-! waves: the reference's quarter against the truth -/
theorem et_86 (o : Nat) (h : o = 0 ∨ o = 1) {f : Nat} (hf : f = 11 ∨ f = 17) : (((1000000 : Int) ^ f : Int) : Rat) * eT (8/5) (2 * 100 + o) < 1 ∧ (2000 : Rat) ≤ (((1000000 : Int) ^ f : Int) : Rat) := by
  rcases h with h | h <;> rcases hf with hf | hf <;> subst h <;> subst hf <;> decide +kernel
theorem qo_01 (z : Int32) : qo z = 0 ∨ qo z = 1 := by
  unfold qo
  split
  · exact Or.inr rfl
  · exact Or.inl rfl
theorem qT_nn {B st T0 : Int} {o : Nat} (hB : 0 < B) (hs : 0 ≤ st) (h0 : 0 ≤ T0) : ∀ n, 0 ≤ qT B st T0 o n
  | 0 => h0
  | n + 1 => Int.ediv_nonneg (Int.ediv_nonneg (Int.mul_nonneg (qT_nn hB hs h0 n) hs) (Int.le_of_lt hB)) (by omega)
theorem qs_near {f : Nat} (hf : f = 11 ∨ f = 17) {Y : Int} {o : Nat} (ho : o = 0 ∨ o = 1) (hY0 : 0 ≤ Y) (hY : 5 * Y ≤ 8 * 1000000 ^ f) {r : Rat} (hr : (((1000000 : Int) ^ f : Int) : Rat) * r = (Y : Rat)) {T0 : Int} (hT0 : T0 = if o = 0 then 1000000 ^ f else Y) :
    (∀ k, k ≤ 190 → qT (1000000 ^ f) (Y * Y / 1000000 ^ f) T0 o k = 0 → nb (((qS (1000000 ^ f) (Y * Y / 1000000 ^ f) T0 o k : Int) : Rat) - (((1000000 : Int) ^ f : Int) : Rat) * (if o = 0 then cc r else ss r)) (20 * (k : Rat) + 20)) ∧ qT (1000000 ^ f) (Y * Y / 1000000 ^ f) T0 o 100 = 0 := by
  have hB := pw_pos f
  obtain ⟨e1, e2⟩ := et_86 o ho hf
  generalize hBB : (1000000 : Int) ^ f = B at *
  have U0 : (0 : Rat) < (B : Rat) := by grind
  have Y0 : (0 : Rat) ≤ (Y : Rat) := by
    have : ((0 : Int) : Rat) ≤ (Y : Rat) := Rat.intCast_le_intCast.mpr hY0
    simpa using this
  have Y8 : 5 * (Y : Rat) ≤ 8 * (B : Rat) := by
    have : ((5 * Y : Int) : Rat) ≤ ((8 * B : Int) : Rat) := Rat.intCast_le_intCast.mpr hY
    rw [Rat.intCast_mul, Rat.intCast_mul] at this
    simpa using this
  have r0 : 0 ≤ r := mul_cancel_le U0 (by grind)
  have r8 : r ≤ 8/5 := mul_cancel_le U0 (by grind)
  have st0 : 0 ≤ Y * Y / B := Int.ediv_nonneg (Int.mul_nonneg hY0 hY0) (Int.le_of_lt hB)
  have hT00 : 0 ≤ T0 := by rw [hT0]; split <;> omega
  obtain ⟨s1, s2⟩ := rd_le (p := Y * Y) hB
  rw [Rat.intCast_mul] at s1 s2
  have sq0 : (0 : Rat) ≤ ((Y * Y / B : Int) : Rat) := by
    have : ((0 : Int) : Rat) ≤ ((Y * Y / B : Int) : Rat) := Rat.intCast_le_intCast.mpr st0
    simpa using this
  generalize Y * Y / B = st at *
  have h00 : ((T0 : Int) : Rat) = (B : Rat) * eT r o := by
    rw [hT0]
    rcases ho with ho | ho
    · subst ho
      rw [if_pos rfl]
      have : eT r 0 = 1 := rfl
      rw [this]; grind
    · subst ho
      rw [if_neg (by decide)]
      have q1 : eT r 1 = 1 * r / ((0 + 1 : Nat) : Rat) := rfl
      have q2 : ((0 + 1 : Nat) : Rat) = 1 := rfl
      rw [q1, q2, ← hr]; grind
  have seq := tr_seq (U := (B : Rat)) (r := r) (f := (st : Rat)) (o := o) (T := fun i => ((qT B st T0 o i : Int) : Rat)) (S := fun i => ((qS B st T0 o i : Int) : Rat)) (m := 190) U0 r0 r8 sq0 (by
      rw [← hr] at s1
      exact mul_cancel_le U0 (by grind)) (by
      rw [← hr] at s2
      exact mul_cancel_le U0 (by grind)) h00 rfl (fun i _ => by
      have t0 : (0 : Rat) ≤ ((qT B st T0 o i : Int) : Rat) := by
        have : ((0 : Int) : Rat) ≤ ((qT B st T0 o i : Int) : Rat) := Rat.intCast_le_intCast.mpr (qT_nn hB st0 hT00 i)
        simpa using this
      obtain ⟨c1, c2⟩ := rd_le (p := qT B st T0 o i * st) hB
      have Kp : 0 < (((2 * i + o + 1) * (2 * i + o + 2) : Nat) : Int) := by
        have : 0 < (2 * i + o + 1) * (2 * i + o + 2) := Nat.mul_pos (by omega) (by omega)
        omega
      obtain ⟨d1, d2⟩ := rd_le (p := qT B st T0 o i * st / B) Kp
      have E : qT B st T0 o (i + 1) = qT B st T0 o i * st / B / (((2 * i + o + 1) * (2 * i + o + 2) : Nat) : Int) := rfl
      rw [← E] at d1 d2
      rw [Rat.intCast_mul] at c1 c2
      have eK : ((((2 * i + o + 1) * (2 * i + o + 2) : Nat) : Int) : Rat) = ((2 * i + o + 1 : Nat) : Rat) * ((2 * i + o + 2 : Nat) : Rat) := by
        show (((2 * i + o + 1) * (2 * i + o + 2) : Nat) : Rat) = _
        rw [Rat.natCast_mul]
      rw [eK] at d1 d2
      generalize ((qT B st T0 o i * st / B : Int) : Rat) = M at *
      show 0 ≤ ((qT B st T0 o i : Int) : Rat) ∧ (B : Rat) * (((2 * i + o + 1 : Nat) : Rat) * ((2 * i + o + 2 : Nat) : Rat) * ((qT B st T0 o (i + 1) : Int) : Rat)) ≤ ((qT B st T0 o i : Int) : Rat) * (st : Rat) ∧ ((qT B st T0 o i : Int) : Rat) * (st : Rat) ≤ (B : Rat) * (((2 * i + o + 1 : Nat) : Rat) * ((2 * i + o + 2 : Nat) : Rat) * ((qT B st T0 o (i + 1) : Int) : Rat)) + (B : Rat) * (((2 * i + o + 1 : Nat) : Rat) * ((2 * i + o + 2 : Nat) : Rat)) + (B : Rat) * 5
      generalize ((qT B st T0 o (i + 1) : Int) : Rat) = T' at *
      generalize ((qT B st T0 o i : Int) : Rat) = T at *
      generalize ((2 * i + o + 1 : Nat) : Rat) * ((2 * i + o + 2 : Nat) : Rat) = K at *
      generalize (B : Rat) = U at *
      have x1 := Rat.mul_le_mul_of_nonneg_right d1 (Rat.le_of_lt U0)
      have x2 := Rat.mul_le_mul_of_nonneg_right d2 (Rat.le_of_lt U0)
      refine ⟨t0, by grind, by grind⟩) (fun i _ => by
      show ((qS B st T0 o (i + 1) : Int) : Rat) = if i % 2 = 0 then ((qS B st T0 o i : Int) : Rat) - ((qT B st T0 o (i + 1) : Int) : Rat) else ((qS B st T0 o i : Int) : Rat) + ((qT B st T0 o (i + 1) : Int) : Rat)
      have ES : qS B st T0 o (i + 1) = if i % 2 = 0 then qS B st T0 o i - qT B st T0 o (i + 1) else qS B st T0 o i + qT B st T0 o (i + 1) := rfl
      rw [ES]
      by_cases c : i % 2 = 0
      · rw [if_pos c, if_pos c, Rat.intCast_sub]
      · rw [if_neg c, if_neg c, Rat.intCast_add])
  constructor
  · intro k hk hz
    obtain ⟨-, q2, q3⟩ := seq k hk
    have q2' : (B : Rat) * eT r (2 * k + o) ≤ 20 := by
      have e : ((qT B st T0 o k : Int) : Rat) = 0 := by rw [hz]; rfl
      have q2'' : (B : Rat) * eT r (2 * k + o) ≤ ((qT B st T0 o k : Int) : Rat) + 20 := q2
      rw [e] at q2''
      grind
    have ae := al_end (o := o) (k := k) e2 r0 r8 (by omega) ho q2'
    have s := nb_add q3 ae
    generalize (if o = 0 then cc r else ss r) = Z at *
    generalize al r o k = A at *
    have s' : nb (((qS B st T0 o k : Int) : Rat) - (B : Rat) * A + ((B : Rat) * A - (B : Rat) * Z)) (20 * (k : Rat) + 20) := s
    have e : ((qS B st T0 o k : Int) : Rat) - (B : Rat) * A + ((B : Rat) * A - (B : Rat) * Z) = ((qS B st T0 o k : Int) : Rat) - (B : Rat) * Z := by grind
    rw [e] at s'
    exact s'
  · have w1 := (seq 100 (by decide)).1
    have w2 := eT_mono r0 r8 (2 * 100 + o)
    have lt : ((qT B st T0 o 100 : Int) : Rat) < ((1 : Int) : Rat) := by
      have h1 : ((1 : Int) : Rat) = 1 := rfl
      rw [h1]
      have m := Rat.mul_le_mul_of_nonneg_right w2 (Rat.le_of_lt U0)
      have w1' : ((qT B st T0 o 100 : Int) : Rat) ≤ (B : Rat) * eT r (2 * 100 + o) := w1
      generalize eT r (2 * 100 + o) = a at *
      generalize eT (8/5) (2 * 100 + o) = b at *
      grind
    have i1 := Rat.intCast_lt_intCast.mp lt
    have i2 := qT_nn (o := o) hB st0 hT00 100
    omega
/-- the quarter's sum -/
theorem qur_val {f : Nat} (hf : f = 11 ∨ f = 17) {z : Int32} {g p : Nat → Int64} (o8 : ok 8 g) (hY : 5 * vv 8 g 24 ≤ 8 * 1000000 ^ f) {r : Rat} (hr : (((1000000 : Int) ^ f : Int) : Rat) * r = (vv 8 g 24 : Rat)) :
    ok 0 (qur f z g p).1 ∧ ∃ S : Int, vv 0 (qur f z g p).1 24 = S % 1000000 ^ 24 ∧ nb ((S : Rat) - (((1000000 : Int) ^ f : Int) : Rat) * (if z = 0 then ss r else cc r)) 2100 := by
  have hB := pw_pos f
  have Y0 := vv_nn o8
  have hX : vv 8 g 24 ≤ 2 * 1000000 ^ f := by
    generalize vv 8 g 24 = Y at *
    generalize (1000000 : Int) ^ f = B at *
    omega
  have f18 : f ≤ 18 := by omega
  obtain ⟨k1, m1, n1⟩ := qu_s (z := z) (p := p) f18 o8 hX
  have kk : sk (fun i => (qu_it f z g p i).1) ≤ 701 := sk_le (s := fun i => (qu_it f z g p i).1) (N := 701) (by decide) (qu_stop f18 o8 hX)
  have E : qur f z g p = qu_it f z g p (sk (fun i => (qu_it f z g p i).1)) := rfl
  rw [E]
  generalize sk (fun i => (qu_it f z g p i).1) = k at *
  have val := qu_val (z := z) (p := p) f18 o8 hX
  have inv := qu_inv (z := z) (p := p) f18 o8 hX
  have hT0 : (if z = 0 then vv 8 g 24 else 1000000 ^ f) = if qo z = 0 then 1000000 ^ f else vv 8 g 24 := by
    unfold qo
    by_cases c : z = 0
    · rw [if_pos c, if_pos c, if_neg (by decide)]
    · rw [if_neg c, if_neg c, if_pos rfl]
  obtain ⟨near, z100⟩ := qs_near hf (qo_01 z) Y0 hY hr hT0
  have k100 : k ≤ 100 := by
    by_cases c : k ≤ 100
    · exact c
    · exfalso
      have q := m1 100 (by omega)
      have w := (no_ok (inv 100 (by decide)).1.2.1).mpr (by rw [(val 100 (by decide)).2.1]; exact z100)
      exact w q
  have hz : qT (1000000 ^ f) (vv 8 g 24 * vv 8 g 24 / 1000000 ^ f) (if z = 0 then vv 8 g 24 else 1000000 ^ f) (qo z) k = 0 := by
    rw [← (val k (by omega)).2.1]
    exact (no_ok (inv k (by omega)).1.2.1).mp n1
  refine ⟨(inv k (by omega)).1.1, _, (val k (by omega)).2.2, ?_⟩
  have nn := near k (by omega) hz
  have ez : (if qo z = 0 then cc r else ss r) = if z = 0 then ss r else cc r := by
    unfold qo
    by_cases c : z = 0
    · rw [if_pos c, if_pos c, if_neg (by decide)]
    · rw [if_neg c, if_neg c, if_pos rfl]
  rw [ez] at nn
  have kr : (k : Rat) ≤ 100 := by
    have : (k : Rat) ≤ ((100 : Nat) : Rat) := Rat.natCast_le_natCast.mpr k100
    simpa using this
  exact nb_mono nn (by grind)
/-- sine is not below 0 up to 8/5 -/
theorem ss_pos {y : Rat} (h0 : 0 ≤ y) (h : y ≤ 8/5) : 0 ≤ ss y := by
  have hb : nb y y := ⟨by grind, by grind⟩
  have tl := eS_tailn h0 (n := 4) (by
    have : ((4 + 1 : Nat) : Rat) = 5 := by decide +kernel
    rw [this]; grind) 796
  rw [show 4 + 796 = 800 from rfl] at tl
  have p := eT_nn h0 800
  have s := sm_bd (fun i => (ct_bd hb i).2) 4 797
  rw [show 4 + 797 = 800 + 1 from rfl, ← eS_sm, show (4 : Nat) = 3 + 1 from rfl, ← eS_sm] at s
  have c1 : sm (ci y) (800 + 1) = ss y := rfl
  rw [c1] at s
  have p0 := ct_par y 0
  have p1 := ct_par y 1
  have e4 : sm (ci y) (3 + 1) = 0 + ci y (2 * 0) + ci y (2 * 0 + 1) + ci y (2 * 1) + ci y (2 * 1 + 1) := rfl
  rw [e4, p0.2.1, p0.2.2.2, p1.2.1, p1.2.2.2] at s
  have g0 : (-1 : Rat) ^ 0 = 1 := rfl
  have g1 : (-1 : Rat) ^ 1 = -1 := by decide +kernel
  rw [g0, g1] at s
  have t1 := eT_s y 0
  have t2 := eT_s y 1
  have t3 := eT_s y 2
  have t4' := eT_s y 3
  have q0 : eT y 0 = 1 := rfl
  have d1 : ((0 + 1 : Nat) : Rat) = 1 := rfl
  have d2 : ((1 + 1 : Nat) : Rat) = 2 := by decide +kernel
  have d3 : ((2 + 1 : Nat) : Rat) = 3 := by decide +kernel
  have d4 : ((3 + 1 : Nat) : Rat) = 4 := by decide +kernel
  rw [d1, q0] at t1
  rw [d2] at t2
  rw [d3] at t3
  rw [d4] at t4'
  have w1 : eT y (2 * 0 + 1) = eT y (0 + 1) := rfl
  have w3 : eT y (2 * 1 + 1) = eT y (2 + 1) := rfl
  rw [w1, w3] at s
  have e5 : eS y 4 = eS y 3 + eT y (3 + 1) := rfl
  have e5' : eT y 4 = eT y (3 + 1) := rfl
  rw [e5, e5'] at tl
  have s1 := s.1
  have n1 := eT_nn h0 (0 + 1)
  have n2 := eT_nn h0 (1 + 1)
  have n3 := eT_nn h0 (2 + 1)
  generalize eS y 800 = A at *
  generalize eT y 800 = B at *
  generalize eS y 3 = C at *
  generalize eT y (0 + 1) = a1 at *
  generalize eT y (1 + 1) = a2 at *
  generalize eT y (2 + 1) = a3 at *
  generalize eT y (3 + 1) = a4 at *
  generalize ss y = Z at *
  have u1 : a1 = y := by grind
  have m2 := Rat.mul_le_mul_of_nonneg_right h n1
  have m3 := Rat.mul_le_mul_of_nonneg_right h n2
  have m4 := Rat.mul_le_mul_of_nonneg_right h n3
  have v2 : a2 ≤ 4/5 * y := by grind
  have v3 : a3 ≤ 32/75 * y := by
    have : 3 * a3 ≤ 8/5 * a2 := by grind
    grind
  have v4 : a4 ≤ 64/375 * y := by
    have : 4 * a4 ≤ 8/5 * a3 := by grind
    grind
  grind
