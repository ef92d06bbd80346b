theorem wn_all (i : Nat) (hi : i < 24415) : wchk 150 117 (2 ^ 92) wn_rows.1 wn_rows.2 wn_K wn_one (wn_hd i).2 (wn_hd i).1 = true ∧ wchk 150 117 (2 ^ 92) wn_rows.1 wn_rows.2 wn_K wn_one (wn_hd i).1 (-(wn_hd i).2) = true := by
  have key : ∀ (i0 m : Nat) (c s : Int), wall 150 117 (2 ^ 92) wn_rows.1 wn_rows.2 wn_K wn_one (2 ^ 110) wn_G wn_H m c s = true → wn_hd i0 = (c, s) → i0 ≤ i → i < i0 + m → wchk 150 117 (2 ^ 92) wn_rows.1 wn_rows.2 wn_K wn_one (wn_hd i).2 (wn_hd i).1 = true ∧ wchk 150 117 (2 ^ 92) wn_rows.1 wn_rows.2 wn_K wn_one (wn_hd i).1 (-(wn_hd i).2) = true := fun i0 m c s h e h1 h2 => by
    have k := wall_ok m c s h (i - i0) (by omega)
    have q := hw_add (a := 2 ^ 110) (G := wn_G) (H := wn_H) (c0 := wn_c) (s0 := wn_s) i0 (i - i0)
    rw [show i0 + (i - i0) = i by omega] at q
    have e' : hw (2 ^ 110) wn_G wn_H wn_c wn_s i0 = (c, s) := e
    rw [e'] at q
    rw [q] at k
    exact k
  by_cases c0 : i < 1000
  · exact key _ _ _ _ wc_0 wc_0h (by omega) (by omega)
  by_cases c1 : i < 2000
  · exact key _ _ _ _ wc_1 wc_1h (by omega) (by omega)
  by_cases c2 : i < 3000
  · exact key _ _ _ _ wc_2 wc_2h (by omega) (by omega)
  by_cases c3 : i < 4000
  · exact key _ _ _ _ wc_3 wc_3h (by omega) (by omega)
  by_cases c4 : i < 5000
  · exact key _ _ _ _ wc_4 wc_4h (by omega) (by omega)
  by_cases c5 : i < 6000
  · exact key _ _ _ _ wc_5 wc_5h (by omega) (by omega)
  by_cases c6 : i < 7000
  · exact key _ _ _ _ wc_6 wc_6h (by omega) (by omega)
  by_cases c7 : i < 8000
  · exact key _ _ _ _ wc_7 wc_7h (by omega) (by omega)
  by_cases c8 : i < 9000
  · exact key _ _ _ _ wc_8 wc_8h (by omega) (by omega)
  by_cases c9 : i < 10000
  · exact key _ _ _ _ wc_9 wc_9h (by omega) (by omega)
  by_cases c10 : i < 11000
  · exact key _ _ _ _ wc_10 wc_10h (by omega) (by omega)
  by_cases c11 : i < 12000
  · exact key _ _ _ _ wc_11 wc_11h (by omega) (by omega)
  by_cases c12 : i < 13000
  · exact key _ _ _ _ wc_12 wc_12h (by omega) (by omega)
  by_cases c13 : i < 14000
  · exact key _ _ _ _ wc_13 wc_13h (by omega) (by omega)
  by_cases c14 : i < 15000
  · exact key _ _ _ _ wc_14 wc_14h (by omega) (by omega)
  by_cases c15 : i < 16000
  · exact key _ _ _ _ wc_15 wc_15h (by omega) (by omega)
  by_cases c16 : i < 17000
  · exact key _ _ _ _ wc_16 wc_16h (by omega) (by omega)
  by_cases c17 : i < 18000
  · exact key _ _ _ _ wc_17 wc_17h (by omega) (by omega)
  by_cases c18 : i < 19000
  · exact key _ _ _ _ wc_18 wc_18h (by omega) (by omega)
  by_cases c19 : i < 20000
  · exact key _ _ _ _ wc_19 wc_19h (by omega) (by omega)
  by_cases c20 : i < 21000
  · exact key _ _ _ _ wc_20 wc_20h (by omega) (by omega)
  by_cases c21 : i < 22000
  · exact key _ _ _ _ wc_21 wc_21h (by omega) (by omega)
  by_cases c22 : i < 23000
  · exact key _ _ _ _ wc_22 wc_22h (by omega) (by omega)
  by_cases c23 : i < 24000
  · exact key _ _ _ _ wc_23 wc_23h (by omega) (by omega)
  exact key _ _ _ _ wc_24 wc_24h (by omega) (by omega)
theorem wn_r0 : wn_rows = (pk 192 (fun i => (wr (2 ^ 90) wn_g wn_h i).1) 4096, pk 192 (fun i => (wr (2 ^ 90) wn_g wn_h i).2) 4096) := by unfold wn_rows; exact wrow_eq
theorem wn_r1 : wn_rows.1 = pk 192 (fun i => (wr (2 ^ 90) wn_g wn_h i).1) 4096 := by rw [wn_r0]
theorem wn_r2 : wn_rows.2 = pk 192 (fun i => (wr (2 ^ 90) wn_g wn_h i).2) 4096 := by rw [wn_r0]
theorem wn_o1 : wn_one = pk 192 (fun _ => 1) 4096 := (one_eq (by decide) 4096).symm
theorem wn_W0 : 0 ≤ wn_W := by decide +kernel
theorem wn_d0 : 0 ≤ wn_d := by decide +kernel
theorem wn_rows9 (j : Nat) (hj : j ≤ 4096) : nb (((wr (2 ^ 90) wn_g wn_h j).1 : Rat) - cc ((j : Rat) * wn_d) * ((2 ^ 90 : Nat) : Rat)) (8 * (j : Rat)) ∧ nb (((wr (2 ^ 90) wn_g wn_h j).2 : Rat) - ss ((j : Rat) * wn_d) * ((2 ^ 90 : Nat) : Rat)) (8 * (j : Rat)) :=
  wr_err (A := 2 ^ 90) (g := wn_g) (h := wn_h) (L := 4096) (d := wn_d) (by decide) (by decide +kernel) wn_d0 (by decide) (by decide +kernel) wn_g1.1 wn_g1.2 (by decide +kernel) (by decide +kernel) j hj
theorem wn_z (j : Nat) (hj : j < 4096) : 0 ≤ (j : Rat) * wn_d ∧ (j : Rat) * wn_d ≤ 1 ∧ 8 * (j : Rat) ≤ 32768 := by
  have jr : (j : Rat) ≤ 4096 := by
    have : (j : Rat) ≤ ((4096 : Nat) : Rat) := Rat.natCast_le_natCast.mpr (by omega)
    simpa using this
  have b : 4096 * wn_d ≤ 1 := by decide +kernel
  have d0 := wn_d0
  generalize wn_d = d at b d0 ⊢
  have a := Rat.mul_le_mul_of_nonneg_right jr d0
  exact ⟨Rat.mul_nonneg Rat.natCast_nonneg d0, by grind, by grind⟩
theorem wn_row9 (j : Nat) (hj : j < 4096) : (nb (cc ((j : Rat) * wn_d)) 2 ∧ nb (((wr (2 ^ 90) wn_g wn_h j).1 : Rat) - cc ((j : Rat) * wn_d) * ((2 ^ 90 : Nat) : Rat)) 32768) ∧ (nb (ss ((j : Rat) * wn_d)) 2 ∧ nb (((wr (2 ^ 90) wn_g wn_h j).2 : Rat) - ss ((j : Rat) * wn_d) * ((2 ^ 90 : Nat) : Rat)) 32768) := by
  obtain ⟨q1, q2⟩ := wn_rows9 j (Nat.le_of_lt hj)
  obtain ⟨z0, z1, z2⟩ := wn_z j hj
  have zz : nb ((j : Rat) * wn_d) 1 := ⟨by grind, z1⟩
  obtain ⟨y1, y2⟩ := cs_bd zz (by decide +kernel)
  exact ⟨⟨y1, nb_mono q1 z2⟩, ⟨y2, nb_mono q2 z2⟩⟩
theorem b3 {x P c : Rat} (hP : 32768 ≤ P) (hc : nb c 2) (h : nb (x - c * P) 32768) : x ≤ 3 * P := by
  have m := Rat.mul_le_mul_of_nonneg_right hc.2 (show 0 ≤ P by grind)
  have := h.2
  grind
theorem wn_row3 (j : Nat) (hj : j < 4096) : (wr (2 ^ 90) wn_g wn_h j).1 ≤ 3 * 2 ^ 90 ∧ (wr (2 ^ 90) wn_g wn_h j).2 ≤ 3 * 2 ^ 90 := by
  obtain ⟨⟨y1, q1⟩, ⟨y2, q2⟩⟩ := wn_row9 j hj
  have p : (32768 : Rat) ≤ ((2 ^ 90 : Nat) : Rat) := by decide +kernel
  have c3 : ((3 * 2 ^ 90 : Nat) : Rat) = 3 * ((2 ^ 90 : Nat) : Rat) := by decide +kernel
  have r1 := b3 p y1 q1
  have r2 := b3 p y2 q2
  rw [← c3] at r1 r2
  exact ⟨Rat.natCast_le_natCast.mp r1, Rat.natCast_le_natCast.mp r2⟩
/-- no sine or cosine of 1 .. 10^8 millionths is near a whole number of billionths -/
theorem wn_ni (x : Nat) (h1 : 1 ≤ x) (h2 : x ≤ 100000000) (k : Int) (hk : -34359738368 ≤ k) : ¬ nb (1000000000 * ss ((x : Rat) * wn_d) - (k : Rat)) (1/137438953472) ∧ ¬ nb (1000000000 * cc ((x : Rat) * wn_d) - (k : Rat)) (1/137438953472) := by
  have hi : (x - 1) / 4096 < 24415 := by omega
  have hj : (x - 1) % 4096 < 4096 := Nat.mod_lt _ (by decide)
  have ex : x = 1 + (4096 * ((x - 1) / 4096) + (x - 1) % 4096) := by omega
  generalize (x - 1) / 4096 = i at *
  generalize (x - 1) % 4096 = j at *
  have i4 : 4096 * i ≤ 99999999 := by omega
  obtain ⟨p1, p2⟩ := wn_all i hi
  unfold wn_K at p1 p2
  rw [wn_r1, wn_r2, wn_o1] at p1 p2
  have ir : (i : Rat) ≤ 24414 := by
    have : (i : Rat) ≤ ((24414 : Nat) : Rat) := Rat.natCast_le_natCast.mpr (by omega)
    simpa using this
  have i0 : (0 : Rat) ≤ (i : Rat) := Rat.natCast_nonneg
  have dd : wn_D = 4096 * wn_d := by decide +kernel
  have d0 : 0 ≤ wn_d := by decide +kernel
  have d9 : wn_d = 1/1000000 := rfl
  -- the head
  have he := hw_err (a := 2 ^ 110) (G := wn_G) (H := wn_H) (c0 := wn_c) (s0 := wn_s) (W := wn_W) (θ := wn_d) (Δ := wn_D) (m := 24414) (by decide) wn_W0 (by decide +kernel) (by decide +kernel) d0 (by decide +kernel) (by decide +kernel) (by decide +kernel) (by decide) wn_G1.1 wn_G1.2 (by decide +kernel) wn_c1 i (by omega)
  have he' : (((wn_hd i).1 : Rat) - wn_W * cc (wn_d + (i : Rat) * wn_D)) * (((wn_hd i).1 : Rat) - wn_W * cc (wn_d + (i : Rat) * wn_D)) + (((wn_hd i).2 : Rat) - wn_W * ss (wn_d + (i : Rat) * wn_D)) * (((wn_hd i).2 : Rat) - wn_W * ss (wn_d + (i : Rat) * wn_D)) ≤ (5 * ((i : Rat) + 1)) * (5 * ((i : Rat) + 1)) := he
  generalize (wn_hd i).1 = C at *
  generalize (wn_hd i).2 = S at *
  have θ0 : 0 ≤ wn_d + (i : Rat) * wn_D := by
    have := Rat.mul_nonneg i0 (show 0 ≤ wn_D by decide +kernel)
    grind
  have θ9 : wn_d + (i : Rat) * wn_D ≤ 100 := by
    have a := Rat.mul_le_mul_of_nonneg_right ir (show 0 ≤ wn_D by decide +kernel)
    have b : wn_d + 24414 * wn_D ≤ 100 := by decide +kernel
    generalize wn_D = D at *
    generalize wn_d = d at *
    grind
  have jd0 : 0 ≤ (j : Rat) * wn_d := Rat.mul_nonneg Rat.natCast_nonneg d0
  have jr : (j : Rat) ≤ 4096 := by
    have : (j : Rat) ≤ ((4096 : Nat) : Rat) := Rat.natCast_le_natCast.mpr (by omega)
    simpa using this
  have jd1 : (j : Rat) * wn_d ≤ 1 := by
    have a := Rat.mul_le_mul_of_nonneg_right jr d0
    have b : 4096 * wn_d ≤ 1 := by decide +kernel
    generalize wn_d = d at *
    grind
  have exd : (x : Rat) * wn_d = wn_d + (i : Rat) * wn_D + (j : Rat) * wn_d := by
    rw [ex, dd, Rat.natCast_add, Rat.natCast_add, Rat.natCast_mul]
    have e1 : ((1 : Nat) : Rat) = 1 := rfl
    have e2 : ((4096 : Nat) : Rat) = 4096 := by simp
    rw [e1, e2]
    generalize wn_d = d at *
    grind
  have hb1 : nb (wn_d + (i : Rat) * wn_D) 100 := ⟨by grind, θ9⟩
  have hb2 : nb ((j : Rat) * wn_d) 1 := ⟨by grind, jd1⟩
  obtain ⟨k1, k2⟩ := cs_add hb1 hb2 (by decide +kernel)
  rw [← exd] at k1 k2
  obtain ⟨b1, b2⟩ := cs_bd hb1 (by decide +kernel)
  have N0 : 0 ≤ 5 * ((i : Rat) + 1) := by grind
  have N9 : 5 * ((i : Rat) + 1) ≤ 130000 := by grind
  have eC : nb ((C : Rat) - wn_W * cc (wn_d + (i : Rat) * wn_D)) 130000 := by
    refine nb_mono (ab_le N0 ?_) N9
    have := sq_nn ((S : Rat) - wn_W * ss (wn_d + (i : Rat) * wn_D))
    generalize (C : Rat) - wn_W * cc (wn_d + (i : Rat) * wn_D) = X at *
    generalize (S : Rat) - wn_W * ss (wn_d + (i : Rat) * wn_D) = Y at *
    grind
  have eS9 : nb ((S : Rat) - wn_W * ss (wn_d + (i : Rat) * wn_D)) 130000 := by
    refine nb_mono (ab_le N0 ?_) N9
    have := sq_nn ((C : Rat) - wn_W * cc (wn_d + (i : Rat) * wn_D))
    generalize (C : Rat) - wn_W * cc (wn_d + (i : Rat) * wn_D) = X at *
    generalize (S : Rat) - wn_W * ss (wn_d + (i : Rat) * wn_D) = Y at *
    grind
  have row9 := wn_row9
  have row3 := wn_row3
  have WA : wn_W * ((2 ^ 90 : Nat) : Rat) = 1000000000 * ((2 ^ 150 : Nat) : Rat) := by decide +kernel
  have t9 : 1000000000 * t4 ≤ 1/137438953472 := by decide +kernel
  have ho9 : (wn_W * 2 + 130000 : Rat) ≤ ((2 ^ 92 : Nat) : Rat) := by decide +kernel
  have er9 : 6 * ((2 ^ 90 : Nat) : Rat) * 130000 + 4 * wn_W * 32768 + 1/68719476736 * ((2 ^ 150 : Nat) : Rat) < ((2 ^ (117 - 1) : Nat) : Rat) := by decide +kernel
  have rm9 : 12 * 2 ^ 92 * 2 ^ 90 + 2 ^ 35 * 2 ^ 150 + 2 ^ (117 - 1) < 2 ^ 192 := by decide
  have q9 : 2 ^ 92 * (6 * 2 ^ 90) ≤ 2 ^ 35 * 2 ^ 150 := by decide
  constructor
  · intro hn
    refine wave_lane (w := 192) (F := 150) (f := 117) (L := 4096) (o := 2 ^ 92) (Q := 2 ^ 35) (A := 2 ^ 90) (a := S) (b := C) (c := fun i => (wr (2 ^ 90) wn_g wn_h i).1) (s := fun i => (wr (2 ^ 90) wn_g wn_h i).2) (α := ss (wn_d + (i : Rat) * wn_D)) (β := cc (wn_d + (i : Rat) * wn_D)) (W := wn_W) (E := 130000) (e := 32768) (t := 1/68719476736) (cj := fun j => cc ((j : Rat) * wn_d)) (sj := fun j => ss ((j : Rat) * wn_d)) (by decide) (by decide) (by decide) ho9 b2 b1 wn_W0 eS9 eC (fun j hj => (row9 j hj).1) (fun j hj => (row9 j hj).2) row3 q9 rm9 er9 (V := fun j => 1000000000 * (ss (wn_d + (i : Rat) * wn_D) * cc ((j : Rat) * wn_d) + cc (wn_d + (i : Rat) * wn_D) * ss ((j : Rat) * wn_d))) (fun j _ => ?_) p1 j hj k (by omega) ?_
    · show 1000000000 * (ss (wn_d + (i : Rat) * wn_D) * cc ((j : Rat) * wn_d) + cc (wn_d + (i : Rat) * wn_D) * ss ((j : Rat) * wn_d)) * ((2 ^ 150 : Nat) : Rat) = wn_W * ((2 ^ 90 : Nat) : Rat) * (ss (wn_d + (i : Rat) * wn_D) * cc ((j : Rat) * wn_d) + cc (wn_d + (i : Rat) * wn_D) * ss ((j : Rat) * wn_d))
      rw [WA]
      generalize ((2 ^ 150 : Nat) : Rat) = P
      generalize ss (wn_d + (i : Rat) * wn_D) * cc ((j : Rat) * wn_d) + cc (wn_d + (i : Rat) * wn_D) * ss ((j : Rat) * wn_d) = Y
      grind
    · obtain ⟨u1, u2⟩ := k2
      obtain ⟨v1, v2⟩ := hn
      show nb (1000000000 * (ss (wn_d + (i : Rat) * wn_D) * cc ((j : Rat) * wn_d) + cc (wn_d + (i : Rat) * wn_D) * ss ((j : Rat) * wn_d)) - (k : Rat)) (1/68719476736)
      generalize ss (wn_d + (i : Rat) * wn_D) = A1 at *
      generalize cc (wn_d + (i : Rat) * wn_D) = A2 at *
      generalize cc ((j : Rat) * wn_d) = A3 at *
      generalize ss ((j : Rat) * wn_d) = A4 at *
      generalize ss ((x : Rat) * wn_d) = A5 at *
      generalize t4 = T at *
      constructor <;> grind
  · intro hn
    refine wave_lane (w := 192) (F := 150) (f := 117) (L := 4096) (o := 2 ^ 92) (Q := 2 ^ 35) (A := 2 ^ 90) (a := C) (b := -S) (c := fun i => (wr (2 ^ 90) wn_g wn_h i).1) (s := fun i => (wr (2 ^ 90) wn_g wn_h i).2) (α := cc (wn_d + (i : Rat) * wn_D)) (β := -ss (wn_d + (i : Rat) * wn_D)) (W := wn_W) (E := 130000) (e := 32768) (t := 1/68719476736) (cj := fun j => cc ((j : Rat) * wn_d)) (sj := fun j => ss ((j : Rat) * wn_d)) (by decide) (by decide) (by decide) ho9 b1 (nb_neg b2) wn_W0 eC (by
      rw [Rat.intCast_neg]
      have e := nb_neg eS9
      generalize ss (wn_d + (i : Rat) * wn_D) = A1 at *
      generalize wn_W = W at *
      have e2 : -((S : Rat) - W * A1) = -(S : Rat) - W * -A1 := by grind
      rw [e2] at e
      exact e) (fun j hj => (row9 j hj).1) (fun j hj => (row9 j hj).2) row3 q9 rm9 er9 (V := fun j => 1000000000 * (cc (wn_d + (i : Rat) * wn_D) * cc ((j : Rat) * wn_d) + -ss (wn_d + (i : Rat) * wn_D) * ss ((j : Rat) * wn_d))) (fun j _ => ?_) p2 j hj k (by omega) ?_
    · show 1000000000 * (cc (wn_d + (i : Rat) * wn_D) * cc ((j : Rat) * wn_d) + -ss (wn_d + (i : Rat) * wn_D) * ss ((j : Rat) * wn_d)) * ((2 ^ 150 : Nat) : Rat) = wn_W * ((2 ^ 90 : Nat) : Rat) * (cc (wn_d + (i : Rat) * wn_D) * cc ((j : Rat) * wn_d) + -ss (wn_d + (i : Rat) * wn_D) * ss ((j : Rat) * wn_d))
      rw [WA]
      generalize ((2 ^ 150 : Nat) : Rat) = P
      generalize cc (wn_d + (i : Rat) * wn_D) * cc ((j : Rat) * wn_d) + -ss (wn_d + (i : Rat) * wn_D) * ss ((j : Rat) * wn_d) = Y
      grind
    · obtain ⟨u1, u2⟩ := k1
      obtain ⟨v1, v2⟩ := hn
      show nb (1000000000 * (cc (wn_d + (i : Rat) * wn_D) * cc ((j : Rat) * wn_d) + -ss (wn_d + (i : Rat) * wn_D) * ss ((j : Rat) * wn_d)) - (k : Rat)) (1/68719476736)
      generalize ss (wn_d + (i : Rat) * wn_D) = A1 at *
      generalize cc (wn_d + (i : Rat) * wn_D) = A2 at *
      generalize cc ((j : Rat) * wn_d) = A3 at *
      generalize ss ((j : Rat) * wn_d) = A4 at *
      generalize cc ((x : Rat) * wn_d) = A5 at *
      generalize t4 = T at *
      constructor <;> grind
