/-! waves: the class's sine and cosine -/
theorem et_85 (o : Nat) (h : o = 0 ∨ o = 1) : ((2 ^ 160 : Nat) : Rat) * eT (8/5) (2 * 100 + o) < 1 := by
  rcases h with h | h <;> subst h <;> decide +kernel
theorem fac_val {d0 o : Nat} {v : rk_U} {R f : Nat} {r : Rat} (hd : d0 = o + 1) (ho : o = 0 ∨ o = 1) (o0 : okw (v 0) 7) (o4 : okw (v 4) 7) (hf : uv (v 4) 7 = f) (f1 : f ≤ R * R / 2 ^ 160) (f2 : R * R / 2 ^ 160 ≤ f + 4) (hR : 5 * R ≤ 8 * 2 ^ 160) (hr : ((2 ^ 160 : Nat) : Rat) * r = (R : Rat)) (hv : uv (v 0) 7 = if o = 0 then 2 ^ 160 else R) :
    okw (rk_fac d0 v 0) 7 ∧ ∃ S : Int, (uv (rk_fac d0 v 0) 7 : Int) = S % 2 ^ 224 ∧ nb ((S : Rat) - ((2 ^ 160 : Nat) : Rat) * (if o = 0 then cc r else ss r)) 2100 := by
  have E : rk_fac d0 v = rk_fE d0 (rk_cpy 1 0 v) := rfl
  rw [E]
  have c := cpw_ok (f := v (2 * 1)) o0
  have w2 : rk_cpy 1 0 v 2 = wr_cp (v (2 * 1)) (v (2 * 0)) := vup_eq _ _ _
  have w0 : rk_cpy 1 0 v 0 = v 0 := vup_ne _ _ (by decide)
  have w4 : rk_cpy 1 0 v 4 = v 4 := vup_ne _ _ (by decide)
  rw [← w4] at o4 hf
  rw [← w0] at o0 hv
  have c' : okw (rk_cpy 1 0 v 2) 7 ∧ uv (rk_cpy 1 0 v 2) 7 = uv (v 0) 7 := by rw [w2]; exact c
  rw [← w0] at c'
  clear c w2 w0 w4 E
  generalize rk_cpy 1 0 v = w at *
  have hd12 : d0 = 1 ∨ d0 = 2 := by omega
  have hT0 : uv (w 2) 7 = if o = 0 then 2 ^ 160 else R := c'.2.trans hv
  have R2 : R ≤ 2 * 2 ^ 160 := by omega
  have hf3 : f ≤ 3 * 2 ^ 160 := by
    have h1 : 25 * (R * R) ≤ 64 * (2 ^ 160 * 2 ^ 160) := by
      have := Nat.mul_le_mul hR hR
      have e1 : 5 * R * (5 * R) = 25 * (R * R) := by grind
      have e2 : 8 * 2 ^ 160 * (8 * 2 ^ 160) = 64 * (2 ^ 160 * 2 ^ 160) := by decide
      rw [e1, e2] at this
      exact this
    have h2 : R * R ≤ 3 * 2 ^ 160 * 2 ^ 160 := by
      have e2 : 3 * 2 ^ 160 * 2 ^ 160 = 3 * (2 ^ 160 * 2 ^ 160) := by decide
      rw [e2]
      generalize R * R = a at *
      generalize 2 ^ 160 * 2 ^ 160 = b at *
      omega
    exact Nat.le_trans f1 (Nat.div_le_of_le_mul (by rw [Nat.mul_comm]; exact h2))
  have hT : uv (w 2) 7 ≤ 2 * 2 ^ 160 := by
    rw [hT0]; split
    · decide
    · exact R2
  have hT1 : d0 = 1 → uv (w 2) 7 ≤ 2 ^ 160 := fun q => by
    rw [hT0, if_pos (by omega)]; exact Nat.le_refl _
  have inv := fac_inv hd12 o0 c'.1 o4 c'.2.symm hf hf3 hT hT1
  -- over Rat
  have U0 : (0 : Rat) < ((2 ^ 160 : Nat) : Rat) := by decide +kernel
  have Rr0 : (0 : Rat) ≤ (R : Rat) := Rat.natCast_nonneg
  have hRr : 5 * (R : Rat) ≤ 8 * ((2 ^ 160 : Nat) : Rat) := by
    have : ((5 * R : Nat) : Rat) ≤ ((8 * 2 ^ 160 : Nat) : Rat) := Rat.natCast_le_natCast.mpr hR
    rw [Rat.natCast_mul, Rat.natCast_mul] at this
    have e5 : ((5 : Nat) : Rat) = 5 := by simp
    have e8 : ((8 : Nat) : Rat) = 8 := by simp
    rw [e5, e8] at this
    exact this
  have sq1 := nd_le (R * R) (2 ^ 160) (by decide)
  rw [Rat.natCast_mul R R] at sq1
  have g1 : (f : Rat) ≤ ((R * R / 2 ^ 160 : Nat) : Rat) := Rat.natCast_le_natCast.mpr f1
  have g2 : ((R * R / 2 ^ 160 : Nat) : Rat) ≤ (f : Rat) + 4 := by
    have : ((R * R / 2 ^ 160 : Nat) : Rat) ≤ ((f + 4 : Nat) : Rat) := Rat.natCast_le_natCast.mpr f2
    rw [Rat.natCast_add] at this
    have e4 : ((4 : Nat) : Rat) = 4 := by simp
    rw [e4] at this
    exact this
  have f0 : (0 : Rat) ≤ (f : Rat) := Rat.natCast_nonneg
  have hU3 : (2000 : Rat) ≤ ((2 ^ 160 : Nat) : Rat) := by decide +kernel
  have step : ∀ i, i < 190 → 0 ≤ (fT d0 w i : Rat) ∧ ((2 ^ 160 : Nat) : Rat) * (((2 * i + o + 1 : Nat) : Rat) * ((2 * i + o + 2 : Nat) : Rat) * (fT d0 w (i + 1) : Rat)) ≤ (fT d0 w i : Rat) * (f : Rat) ∧ (fT d0 w i : Rat) * (f : Rat) ≤ ((2 ^ 160 : Nat) : Rat) * (((2 * i + o + 1 : Nat) : Rat) * ((2 * i + o + 2 : Nat) : Rat) * (fT d0 w (i + 1) : Rat)) + ((2 ^ 160 : Nat) : Rat) * (((2 * i + o + 1 : Nat) : Rat) * ((2 * i + o + 2 : Nat) : Rat)) + ((2 ^ 160 : Nat) : Rat) * 5 := fun i hi => by
    obtain ⟨M, m1, m2, m3⟩ := (inv (i + 1) (by omega)).2 (by omega)
    rw [show i + 1 - 1 = i by omega] at m1 m2 m3
    have eK : (d0 + 2 * i) * (d0 + 2 * i + 1) = (2 * i + o + 1) * (2 * i + o + 2) := by
      rw [hd, show o + 1 + 2 * i = 2 * i + o + 1 by omega]
    rw [eK] at m3
    have Kp : 0 < (2 * i + o + 1) * (2 * i + o + 2) := Nat.mul_pos (by omega) (by omega)
    obtain ⟨d1, d2⟩ := nd_le M ((2 * i + o + 1) * (2 * i + o + 2)) Kp
    rw [← m3, Rat.natCast_mul] at d1 d2
    obtain ⟨c1, c2⟩ := nd_le (fT d0 w i * f) (2 ^ 160) (by decide)
    rw [Rat.natCast_mul (fT d0 w i) f] at c1 c2
    have r1 : (M : Rat) ≤ ((fT d0 w i * f / 2 ^ 160 : Nat) : Rat) := Rat.natCast_le_natCast.mpr m1
    have r2 : ((fT d0 w i * f / 2 ^ 160 : Nat) : Rat) ≤ (M : Rat) + 4 := by
      have : ((fT d0 w i * f / 2 ^ 160 : Nat) : Rat) ≤ ((M + 4 : Nat) : Rat) := Rat.natCast_le_natCast.mpr m2
      rw [Rat.natCast_add] at this
      have e4 : ((4 : Nat) : Rat) = 4 := by simp
      rw [e4] at this
      exact this
    have t0 : (0 : Rat) ≤ (fT d0 w i : Rat) := Rat.natCast_nonneg
    generalize ((fT d0 w i * f / 2 ^ 160 : Nat) : Rat) = q at *
    generalize (fT d0 w (i + 1) : Rat) = T' at *
    generalize (fT d0 w i : Rat) = T at *
    generalize ((2 * i + o + 1 : Nat) : Rat) * ((2 * i + o + 2 : Nat) : Rat) = K at *
    generalize ((2 ^ 160 : Nat) : Rat) = U at *
    have x1 := Rat.mul_le_mul_of_nonneg_right (show K * T' ≤ q by grind) (Rat.le_of_lt U0)
    have x2 := Rat.mul_le_mul_of_nonneg_right (show q ≤ K * T' + K + 4 by grind) (Rat.le_of_lt U0)
    refine ⟨t0, by grind, by grind⟩
  have hSS : ∀ i, i < 190 → ((fS d0 w (i + 1) : Int) : Rat) = if i % 2 = 0 then ((fS d0 w i : Int) : Rat) - (fT d0 w (i + 1) : Rat) else ((fS d0 w i : Int) : Rat) + (fT d0 w (i + 1) : Rat) := fun i _ => by
    have ES : fS d0 w (i + 1) = if i % 2 = 0 then fS d0 w i - (fT d0 w (i + 1) : Int) else fS d0 w i + (fT d0 w (i + 1) : Int) := rfl
    rw [ES]
    by_cases c : i % 2 = 0
    · rw [if_pos c, if_pos c, Rat.intCast_sub]; rfl
    · rw [if_neg c, if_neg c, Rat.intCast_add]; rfl
  have r0 : 0 ≤ r := mul_cancel_le U0 (by grind)
  have r8 : r ≤ 8/5 := mul_cancel_le U0 (by grind)
  have h00 : (fT d0 w 0 : Rat) = ((2 ^ 160 : Nat) : Rat) * eT r o := by
    have e : fT d0 w 0 = if o = 0 then 2 ^ 160 else R := hT0
    rw [e]
    rcases ho with ho | ho
    · subst ho
      rw [if_pos rfl]
      have : eT r 0 = 1 := rfl
      rw [this]
      grind
    · subst ho
      rw [if_neg (by decide)]
      have e1 : eT r 1 = 1 * r / ((0 + 1 : Nat) : Rat) := rfl
      have e2 : ((0 + 1 : Nat) : Rat) = 1 := rfl
      rw [e1, e2, ← hr]
      grind
  have seq := tr_seq (U := ((2 ^ 160 : Nat) : Rat)) (r := r) (f := (f : Rat)) (o := o) (T := fun i => (fT d0 w i : Rat)) (S := fun i => ((fS d0 w i : Int) : Rat)) (m := 190) U0 r0 r8 f0 (by
      generalize ((R * R / 2 ^ 160 : Nat) : Rat) = q at *
      rw [← hr] at sq1
      generalize ((2 ^ 160 : Nat) : Rat) = U at *
      have x1 := Rat.mul_le_mul_of_nonneg_right g1 (Rat.le_of_lt U0)
      exact mul_cancel_le U0 (by grind)) (by
      generalize ((R * R / 2 ^ 160 : Nat) : Rat) = q at *
      rw [← hr] at sq1
      generalize ((2 ^ 160 : Nat) : Rat) = U at *
      have x1 := Rat.mul_le_mul_of_nonneg_right g2 (Rat.le_of_lt U0)
      exact mul_cancel_le U0 (by grind)) h00 rfl step hSS
  -- the loop's end
  have z100 : fT d0 w 100 = 0 := by
    have s1 := (seq 100 (by decide)).1
    have s2 := eT_mono r0 r8 (2 * 100 + o)
    have s3 := et_85 o ho
    have lt : ((fT d0 w 100 : Nat) : Rat) < ((1 : Nat) : Rat) := by
      have e1 : ((1 : Nat) : Rat) = 1 := rfl
      rw [e1]
      have m := Rat.mul_le_mul_of_nonneg_right s2 (Rat.le_of_lt U0)
      have s1' : (fT d0 w 100 : Rat) ≤ ((2 ^ 160 : Nat) : Rat) * eT r (2 * 100 + o) := s1
      generalize ((2 ^ 160 : Nat) : Rat) = U at *
      generalize eT r (2 * 100 + o) = a at *
      generalize eT (8/5) (2 * 100 + o) = b at *
      grind
    have := Rat.natCast_lt_natCast.mp lt
    omega
  have E2 : rk_fE d0 w = rk_it (rk_fB d0) (rk_stop (fun i => wr_z (rk_it (rk_fB d0) i w 2)) (201 - d0) 0) w := rfl
  rw [E2]
  have st := stop_ok (fun i => wr_z (rk_it (rk_fB d0) i w 2)) (201 - d0) 0 100 ((zw_ok (inv 100 (by decide)).1.2.1).mpr z100) (Nat.zero_le _) (by omega)
  generalize rk_stop (fun i => wr_z (rk_it (rk_fB d0) i w 2)) (201 - d0) 0 = k at *
  obtain ⟨-, s2, s3⟩ := st
  obtain ⟨⟨j1, j2, -, -, j5⟩, -⟩ := inv k (by omega)
  have hz : fT d0 w k = 0 := (zw_ok j2).mp s2
  obtain ⟨-, q2, q3⟩ := seq k (by omega)
  have q2' : ((2 ^ 160 : Nat) : Rat) * eT r (2 * k + o) ≤ 20 := by
    have e : (fT d0 w k : Rat) = 0 := by rw [hz]; rfl
    have q2'' : ((2 ^ 160 : Nat) : Rat) * eT r (2 * k + o) ≤ (fT d0 w k : Rat) + 20 := q2
    rw [e] at q2''
    grind
  have ae := al_end (o := o) (k := k) hU3 r0 r8 (by omega) ho q2'
  have kr : (k : Rat) ≤ 100 := by
    have : (k : Rat) ≤ ((100 : Nat) : Rat) := Rat.natCast_le_natCast.mpr s3
    simpa using this
  refine ⟨j1, fS d0 w k, j5, ?_⟩
  have s := nb_add q3 ae
  generalize (if o = 0 then cc r else ss r) = Z at *
  generalize al r o k = Y at *
  generalize ((2 ^ 160 : Nat) : Rat) = U at *
  have e : ((fS d0 w k : Int) : Rat) - U * Y + (U * Y - U * Z) = ((fS d0 w k : Int) : Rat) - U * Z := by grind
  have s' : nb (((fS d0 w k : Int) : Rat) - U * Y + (U * Y - U * Z)) (20 * (k : Rat) + 20) := s
  rw [e] at s'
  exact nb_mono s' (by grind)
