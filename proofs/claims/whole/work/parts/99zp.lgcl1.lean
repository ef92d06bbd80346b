/-! the class's sum of odd powers -/
def gT (z : Int32) (w : rk_U) (n : Nat) : Nat := uv (rk_it (rk_oB z) n w 2) 7
def gQ (z : Int32) (w : rk_U) (n : Nat) : Nat := uv (rk_it (rk_oB z) n w 6) 7
def gS (z : Int32) (w : rk_U) : Nat → Int
  | 0 => (gT z w 0 : Int)
  | n + 1 => if z = 0 then gS z w n + (gQ z w (n + 1) : Int) else if n % 2 = 0 then gS z w n - (gQ z w (n + 1) : Int) else gS z w n + (gQ z w (n + 1) : Int)
theorem oz_tab : ∀ n, n < 201 → (nI (2 * n + 3) &&& 2 = 0 ↔ ¬ n % 2 = 0) := by decide +kernel
theorem od_K {n : Nat} (hn : n ≤ 195) : un ((nI (2 * n + 3)).toInt64) = 2 * n + 3 := by rw [nI_toL (by omega), un_nL (by omega)]
theorem od_bd {T f M : Nat} (hT : T ≤ 2 ^ 160) (hf : f ≤ 2 ^ 160) (hM : M ≤ T * f / 2 ^ 160) : M ≤ 2 ^ 160 := by
  have h1 := Nat.mul_le_mul hT hf
  have h2 : T * f / 2 ^ 160 ≤ 2 ^ 160 := by
    refine Nat.le_trans (Nat.div_le_div_right h1) ?_
    decide
  omega
theorem odd_inv {z : Int32} {w : rk_U} {f : Nat} (o0 : okw (w 0) 7) (o2 : okw (w 2) 7) (o4 : okw (w 4) 7) (e : uv (w 0) 7 = uv (w 2) 7) (hf : uv (w 4) 7 = f) (hf3 : f ≤ 2 ^ 160) (hT : uv (w 2) 7 ≤ 2 ^ 160) : ∀ n, n ≤ 190 →
    (okw (rk_it (rk_oB z) n w 0) 7 ∧ okw (rk_it (rk_oB z) n w 2) 7 ∧ rk_it (rk_oB z) n w 4 = w 4 ∧ gT z w n ≤ 2 ^ 160 ∧ (uv (rk_it (rk_oB z) n w 0) 7 : Int) = gS z w n % 2 ^ 224) ∧ (0 < n → gT z w n ≤ gT z w (n - 1) * f / 2 ^ 160 ∧ gT z w (n - 1) * f / 2 ^ 160 ≤ gT z w n + 4 ∧ gQ z w n = gT z w n / (2 * (n - 1) + 3))
  | 0, _ => by
    refine ⟨⟨o0, o2, rfl, hT, ?_⟩, fun q => absurd q (by decide)⟩
    show (uv (w 0) 7 : Int) = (uv (w 2) 7 : Int) % 2 ^ 224
    rw [e]
    have l := uv_lt 7 o2
    rw [show 32 * 7 = 224 from rfl] at l
    generalize uv (w 2) 7 = x at *
    omega
  | n + 1, hn => by
    obtain ⟨⟨i1, i2, i3, i4, i5⟩, -⟩ := odd_inv (z := z) o0 o2 o4 e hf hf3 hT n (by omega)
    have E2 : rk_it (rk_oB z) (n + 1) w 2 = wr_mul 5 (rk_it (rk_oB z) n w 2) (rk_it (rk_oB z) n w 4) (rk_it (rk_oB z) n w 3) := rfl
    have E6 : rk_it (rk_oB z) (n + 1) w 6 = wr_dv (wr_cp (rk_it (rk_oB z) n w 6) (rk_it (rk_oB z) (n + 1) w 2)) ((nI (2 * n + 3)).toInt64) := rfl
    have E0 : rk_it (rk_oB z) (n + 1) w 0 = wr_as (rk_it (rk_oB z) n w 0) (rk_it (rk_oB z) (n + 1) w 6) (rk_oz z n) := rfl
    have E4 : rk_it (rk_oB z) (n + 1) w 4 = rk_it (rk_oB z) n w 4 := rfl
    have ET : gT z w n = uv (rk_it (rk_oB z) n w 2) 7 := rfl
    have ET1 : gT z w (n + 1) = uv (rk_it (rk_oB z) (n + 1) w 2) 7 := rfl
    have EQ1 : gQ z w (n + 1) = uv (rk_it (rk_oB z) (n + 1) w 6) 7 := rfl
    have o4' : okw (rk_it (rk_oB z) n w 4) 7 := by rw [i3]; exact o4
    have f4 : uv (rk_it (rk_oB z) n w 4) 7 = f := by rw [i3]; exact hf
    have m := mulF_ok (p := rk_it (rk_oB z) n w 3) i2 o4' (by
      rw [f4, ← ET]
      exact Nat.lt_of_le_of_lt (Nat.mul_le_mul i4 hf3) (by decide))
    rw [f4, ← ET, ← E2, ← ET1] at m
    have c := cpw_ok (f := rk_it (rk_oB z) n w 6) m.1
    have K := od_K (n := n) (by omega)
    have d := dvw_ok (d := (nI (2 * n + 3)).toInt64) c.1 (by rw [K]; omega) (by rw [K]; omega)
    rw [← E6, c.2, ← ET1, K, ← EQ1] at d
    rw [E0, E4]
    refine ⟨⟨?_, m.1, i3, od_bd i4 hf3 m.2.1, ?_⟩, fun _ => ⟨m.2.1, m.2.2, d.2⟩⟩
    · unfold rk_oz
      split
      · exact (asw_add i1 d.1).1
      · split
        · exact (asw_add i1 d.1).1
        · exact (asw_sub i1 d.1).1
    · have ES : gS z w (n + 1) = if z = 0 then gS z w n + (gQ z w (n + 1) : Int) else if n % 2 = 0 then gS z w n - (gQ z w (n + 1) : Int) else gS z w n + (gQ z w (n + 1) : Int) := rfl
      rw [ES]
      unfold rk_oz
      have l := uv_lt 7 d.1
      rw [show 32 * 7 = 224 from rfl] at l
      by_cases hz : z = 0
      · rw [if_pos hz, if_pos hz, (asw_add i1 d.1).2, ← EQ1]
        exact em_add i5
      · rw [if_neg hz, if_neg hz]
        by_cases c2 : n % 2 = 0
        · rw [if_neg (fun q => (oz_tab n (by omega)).mp q c2), if_pos c2, (asw_sub i1 d.1).2, ← EQ1]
          exact em_sub i5 (by rw [EQ1]; omega)
        · rw [if_pos ((oz_tab n (by omega)).mpr c2), if_neg c2, (asw_add i1 d.1).2, ← EQ1]
          exact em_add i5
theorem oE_mono : ∀ (k j : Nat), oE k ≤ oE (k + j)
  | _, 0 => Rat.le_refl
  | k, j + 1 => by
    have := oE_mono k j
    show oE k ≤ oE (k + j) + (8 / ((2 * (k + j) + 3 : Nat) : Rat) + 1)
    have p := rn_pos (2 * (k + j) + 2)
    have p' : (0 : Rat) < ((2 * (k + j) + 3 : Nat) : Rat) := p
    generalize ((2 * (k + j) + 3 : Nat) : Rat) = a at *
    have d : a * (8 / a) = 8 := by
      have : a ≠ 0 := by grind
      grind
    have h8 : 0 ≤ 8 / a := mul_cancel_le p' (by grind)
    grind
def sga (z : Int32) : Rat := if z = 0 then 1 else -1
theorem sga_1 (z : Int32) : sga z = 1 ∨ sga z = -1 := by
  unfold sga
  split
  · exact Or.inl rfl
  · exact Or.inr rfl
/-- the sum, where the terms end at kx at the latest -/
theorem odd_val {z : Int32} {v : rk_U} {R kx : Nat} {r c : Rat} (o0 : okw (v 0) 7) (hR : uv (v 0) 7 = R) (hr : ((2 ^ 160 : Nat) : Rat) * r = (R : Rat)) (hc : r ≤ c) (c3 : c ≤ 1/3) (hk : ((2 ^ 160 : Nat) : Rat) * c ^ (2 * kx + 1) < 1) (hk9 : kx ≤ 190) :
    okw (rk_odd z v 0) 7 ∧ ∃ S : Int, (uv (rk_odd z v 0) 7 : Int) = S % 2 ^ 224 ∧ nb ((S : Rat) - ((2 ^ 160 : Nat) : Rat) * oS (sga z) r 400) (oE kx + 1) := by
  have U0 : (0 : Rat) < ((2 ^ 160 : Nat) : Rat) := by decide +kernel
  have Rr0 : (0 : Rat) ≤ (R : Rat) := Rat.natCast_nonneg
  have r0 : 0 ≤ r := mul_cancel_le U0 (by grind)
  have r3 : r ≤ 1/3 := by grind
  have Rs : R ≤ 2 ^ 160 := by
    have : (R : Rat) ≤ ((2 ^ 160 : Nat) : Rat) := by
      rw [← hr]
      generalize ((2 ^ 160 : Nat) : Rat) = U at *
      have := Rat.mul_le_mul_of_nonneg_right r3 (Rat.le_of_lt U0)
      grind
    exact Rat.natCast_le_natCast.mp this
  have E : rk_odd z v = rk_oE z (rk_mul 5 2 0 (rk_cpy 2 0 (rk_cpy 1 0 v))) := rfl
  rw [E]
  -- the start
  have s0 : rk_mul 5 2 0 (rk_cpy 2 0 (rk_cpy 1 0 v)) 0 = v 0 := (vup_ne _ _ (by decide)).trans ((vup_ne _ _ (by decide)).trans ((vup_ne _ _ (by decide)).trans (vup_ne _ _ (by decide))))
  have s2 : rk_mul 5 2 0 (rk_cpy 2 0 (rk_cpy 1 0 v)) 2 = wr_cp (v (2 * 1)) (v 0) := (vup_ne _ _ (by decide)).trans ((vup_ne _ _ (by decide)).trans ((vup_ne _ _ (by decide)).trans (vup_eq _ _ _)))
  have c1 := cpw_ok (f := v (2 * 1)) o0
  have a0 : rk_cpy 2 0 (rk_cpy 1 0 v) 0 = v 0 := (vup_ne _ _ (by decide)).trans (vup_ne _ _ (by decide))
  have a4 : rk_cpy 2 0 (rk_cpy 1 0 v) 4 = wr_cp (rk_cpy 1 0 v (2 * 2)) (v 0) := by
    have b0 : rk_cpy 1 0 v (2 * 0) = v 0 := vup_ne _ _ (by decide)
    have b4 : rk_cpy 2 0 (rk_cpy 1 0 v) 4 = wr_cp (rk_cpy 1 0 v (2 * 2)) (rk_cpy 1 0 v (2 * 0)) := vup_eq _ _ _
    rw [b4, b0]
  have c4 := cpw_ok (f := rk_cpy 1 0 v (2 * 2)) o0
  rw [← a4] at c4
  rw [← a0] at o0 hR
  have m := mulF_ok (p := rk_cpy 2 0 (rk_cpy 1 0 v) (2 * 2 + 1)) c4.1 o0 (by
    rw [c4.2, ← a0, hR]
    exact Nat.lt_of_le_of_lt (Nat.mul_le_mul Rs Rs) (by decide))
  have s4 : rk_mul 5 2 0 (rk_cpy 2 0 (rk_cpy 1 0 v)) 4 = wr_mul 5 (rk_cpy 2 0 (rk_cpy 1 0 v) 4) (rk_cpy 2 0 (rk_cpy 1 0 v) 0) (rk_cpy 2 0 (rk_cpy 1 0 v) (2 * 2 + 1)) := (vup_ne _ _ (by decide)).trans (vup_eq _ _ _)
  rw [← s4, c4.2] at m
  rw [a0] at o0 hR m
  rw [hR] at m
  have o0' : okw (rk_mul 5 2 0 (rk_cpy 2 0 (rk_cpy 1 0 v)) 0) 7 ∧ uv (rk_mul 5 2 0 (rk_cpy 2 0 (rk_cpy 1 0 v)) 0) 7 = R := by rw [s0]; exact ⟨o0, hR⟩
  have o2' : okw (rk_mul 5 2 0 (rk_cpy 2 0 (rk_cpy 1 0 v)) 2) 7 ∧ uv (rk_mul 5 2 0 (rk_cpy 2 0 (rk_cpy 1 0 v)) 2) 7 = R := by rw [s2]; exact ⟨c1.1, by rw [c1.2, hR]⟩
  clear s0 s2 c1 a0 a4 c4 s4 E
  generalize rk_mul 5 2 0 (rk_cpy 2 0 (rk_cpy 1 0 v)) = w at *
  obtain ⟨m1, m2, m3⟩ := m
  generalize hff : uv (w 4) 7 = f at *
  have fb : f ≤ 2 ^ 160 := od_bd Rs Rs m2
  have inv := odd_inv (z := z) o0'.1 o2'.1 m1 (o0'.2.trans o2'.2.symm) hff fb (by rw [o2'.2]; exact Rs)
  have T0 : gT z w 0 = R := o2'.2
  -- over Rat
  have sq1 := nd_le (R * R) (2 ^ 160) (by decide)
  rw [Rat.natCast_mul R R] at sq1
  have g1 : (f : Rat) ≤ ((R * R / 2 ^ 160 : Nat) : Rat) := Rat.natCast_le_natCast.mpr m2
  have g2 : ((R * R / 2 ^ 160 : Nat) : Rat) ≤ (f : Rat) + 4 := by
    have : ((R * R / 2 ^ 160 : Nat) : Rat) ≤ ((f + 4 : Nat) : Rat) := Rat.natCast_le_natCast.mpr m3
    rw [Rat.natCast_add] at this
    have e4 : ((4 : Nat) : Rat) = 4 := by simp
    rw [e4] at this
    exact this
  have f0 : (0 : Rat) ≤ (f : Rat) := Rat.natCast_nonneg
  have seq := os_seq (U := ((2 ^ 160 : Nat) : Rat)) (z := r) (f := (f : Rat)) (a := sga z) (T := fun i => (gT z w i : Rat)) (S := fun i => ((gS z w i : Int) : Rat)) (Q := fun i => (gQ z w i : Rat)) (m := 190) (sga_1 z) U0 r0 r3 f0 (by
      generalize ((R * R / 2 ^ 160 : Nat) : Rat) = q at *
      rw [← hr] at sq1
      generalize ((2 ^ 160 : Nat) : Rat) = U at *
      have x1 := Rat.mul_le_mul_of_nonneg_right g1 (Rat.le_of_lt U0)
      exact mul_cancel_le U0 (by grind)) (by
      generalize ((R * R / 2 ^ 160 : Nat) : Rat) = q at *
      rw [← hr] at sq1
      generalize ((2 ^ 160 : Nat) : Rat) = U at *
      have x1 := Rat.mul_le_mul_of_nonneg_right g2 (Rat.le_of_lt U0)
      exact mul_cancel_le U0 (by grind)) (by show (gT z w 0 : Rat) = _; rw [T0, hr]) (by show (((gT z w 0 : Nat) : Int) : Rat) = _; rw [T0, hr]; rfl) (fun i hi => by
      obtain ⟨k1, k2, -⟩ := (inv (i + 1) (by omega)).2 (by omega)
      rw [show i + 1 - 1 = i by omega] at k1 k2
      obtain ⟨d1, d2⟩ := nd_le (gT z w i * f) (2 ^ 160) (by decide)
      rw [Rat.natCast_mul (gT z w i) f] at d1 d2
      have r1 : (gT z w (i + 1) : Rat) ≤ ((gT z w i * f / 2 ^ 160 : Nat) : Rat) := Rat.natCast_le_natCast.mpr k1
      have r2 : ((gT z w i * f / 2 ^ 160 : Nat) : Rat) ≤ (gT z w (i + 1) : Rat) + 4 := by
        have : ((gT z w i * f / 2 ^ 160 : Nat) : Rat) ≤ ((gT z w (i + 1) + 4 : Nat) : Rat) := Rat.natCast_le_natCast.mpr k2
        rw [Rat.natCast_add] at this
        have e4 : ((4 : Nat) : Rat) = 4 := by simp
        rw [e4] at this
        exact this
      have t0 : (0 : Rat) ≤ (gT z w i : Rat) := Rat.natCast_nonneg
      show 0 ≤ (gT z w i : Rat) ∧ ((2 ^ 160 : Nat) : Rat) * (gT z w (i + 1) : Rat) ≤ (gT z w i : Rat) * (f : Rat) ∧ (gT z w i : Rat) * (f : Rat) ≤ ((2 ^ 160 : Nat) : Rat) * (gT z w (i + 1) : Rat) + ((2 ^ 160 : Nat) : Rat) * 5
      generalize ((gT z w i * f / 2 ^ 160 : Nat) : Rat) = q at *
      generalize (gT z w (i + 1) : Rat) = T' at *
      generalize (gT z w i : Rat) = T at *
      generalize ((2 ^ 160 : Nat) : Rat) = U at *
      have x1 := Rat.mul_le_mul_of_nonneg_right r1 (Rat.le_of_lt U0)
      have x2 := Rat.mul_le_mul_of_nonneg_right r2 (Rat.le_of_lt U0)
      refine ⟨t0, by grind, by grind⟩) (fun i hi => by
      obtain ⟨-, -, k3⟩ := (inv (i + 1) (by omega)).2 (by omega)
      rw [show i + 1 - 1 = i by omega] at k3
      have d := nd_le (gT z w (i + 1)) (2 * i + 3) (by omega)
      rw [← k3] at d
      exact d) (fun i hi => by
      show ((gS z w (i + 1) : Int) : Rat) = ((gS z w i : Int) : Rat) + sga z ^ (i + 1) * (gQ z w (i + 1) : Rat)
      have ES : gS z w (i + 1) = if z = 0 then gS z w i + (gQ z w (i + 1) : Int) else if i % 2 = 0 then gS z w i - (gQ z w (i + 1) : Int) else gS z w i + (gQ z w (i + 1) : Int) := rfl
      rw [ES]
      unfold sga
      by_cases hz : z = 0
      · rw [if_pos hz, if_pos hz, Rat.intCast_add, rp_one]
        have e9 : (((gQ z w (i + 1) : Nat) : Int) : Rat) = (gQ z w (i + 1) : Rat) := rfl
        rw [e9]; grind
      · rw [if_neg hz, if_neg hz, pm_one]
        have e9 : (((gQ z w (i + 1) : Nat) : Int) : Rat) = (gQ z w (i + 1) : Rat) := rfl
        by_cases h2 : i % 2 = 0
        · rw [if_pos h2, if_neg (by omega), Rat.intCast_sub, e9]; grind
        · rw [if_neg h2, if_pos (by omega), Rat.intCast_add, e9]; grind)
  have zk : gT z w kx = 0 := by
    have s1 := (seq kx hk9).1
    have s1' : (gT z w kx : Rat) ≤ ((2 ^ 160 : Nat) : Rat) * r ^ (2 * kx + 1) := s1
    have s2 := rp_le r0 hc (2 * kx + 1)
    have lt : ((gT z w kx : Nat) : Rat) < ((1 : Nat) : Rat) := by
      have e1 : ((1 : Nat) : Rat) = 1 := rfl
      rw [e1]
      have m := Rat.mul_le_mul_of_nonneg_right s2 (Rat.le_of_lt U0)
      generalize ((2 ^ 160 : Nat) : Rat) = U at *
      generalize r ^ (2 * kx + 1) = a at *
      generalize c ^ (2 * kx + 1) = b at *
      grind
    have := Rat.natCast_lt_natCast.mp lt
    omega
  have E2 : rk_oE z w = rk_it (rk_oB z) (rk_stop (fun i => wr_z (rk_it (rk_oB z) i w 2)) 199 0) w := rfl
  rw [E2]
  have st := stop_ok (fun i => wr_z (rk_it (rk_oB z) i w 2)) 199 0 kx ((zw_ok (inv kx hk9).1.2.1).mpr zk) (Nat.zero_le _) (by omega)
  generalize rk_stop (fun i => wr_z (rk_it (rk_oB z) i w 2)) 199 0 = k at *
  obtain ⟨-, s2, s3⟩ := st
  obtain ⟨⟨j1, j2, -, -, j5⟩, -⟩ := inv k (by omega)
  have hz : gT z w k = 0 := (zw_ok j2).mp s2
  obtain ⟨-, q2, q3⟩ := seq k (by omega)
  have q2' : ((2 ^ 160 : Nat) : Rat) * r ^ (2 * k + 1) ≤ 8 := by
    have e : (gT z w k : Rat) = 0 := by rw [hz]; rfl
    have q2'' : ((2 ^ 160 : Nat) : Rat) * r ^ (2 * k + 1) ≤ (gT z w k : Rat) + 8 := q2
    rw [e] at q2''
    grind
  have tl := os_tail (sga_1 z) r0 r3 k (400 - k)
  rw [show k + (400 - k) = 400 by omega] at tl
  have p400 := rp_nn r0 (2 * 400 + 1)
  have om := oE_mono k (kx - k)
  rw [show k + (kx - k) = kx by omega] at om
  refine ⟨j1, gS z w k, j5, ?_⟩
  have q3' : nb (((gS z w k : Int) : Rat) - ((2 ^ 160 : Nat) : Rat) * oS (sga z) r k) (oE k) := q3
  have mm := nb_mul (show nb ((2 ^ 160 : Nat) : Rat) ((2 ^ 160 : Nat) : Rat) from ⟨by grind, by grind⟩) tl
  generalize ((2 ^ 160 : Nat) : Rat) = U at *
  generalize oS (sga z) r 400 = A at *
  generalize oS (sga z) r k = B at *
  generalize r ^ (2 * k + 1) = P at *
  generalize r ^ (2 * 400 + 1) = Q at *
  have UQ := Rat.mul_nonneg (Rat.le_of_lt U0) p400
  obtain ⟨x1, x2⟩ := q3'
  obtain ⟨y1, y2⟩ := mm
  constructor <;> grind
