theorem dp_num {b : Bool} {t : Nat} (h : 1 ≤ dp_s b t) : ceT (dp_a t) (dp_D b t) 32 = 0 ∧ dp_s b t = sqc (2 ^ 160) (ceS b (dp_a t) (dp_D b t) 32) 5 * 61094 / (1000 * 2 ^ 70) := by
  have e := ceL_ok (ng := b) (a := dp_a t) (D := dp_D b t) 32 0
  have e2 : ceL b (dp_a t) (dp_D b t) 32 0 (2 ^ 160) (2 ^ 160) = bif Nat.beq (ceT (dp_a t) (dp_D b t) 32) 0 then ceS b (dp_a t) (dp_D b t) 32 else 0 := e
  by_cases c : ceT (dp_a t) (dp_D b t) 32 = 0
  · refine ⟨c, ?_⟩
    unfold dp_s
    rw [e2, c]
    rfl
  · exfalso
    have c2 : Nat.beq (ceT (dp_a t) (dp_D b t) 32) 0 = false := Bool.eq_false_iff.mpr (fun q => c (Nat.eq_of_beq_eq_true q))
    unfold dp_s at h
    rw [e2, c2] at h
    have z : Nat.div (Nat.mul (sqc (2 ^ 160) (bif false then ceS b (dp_a t) (dp_D b t) 32 else 0) 5) 61094) (1000 * 2 ^ 70) = 0 := by
      show Nat.div (Nat.mul (sqc (2 ^ 160) 0 5) 61094) (1000 * 2 ^ 70) = 0
      decide
    omega
theorem dp_ni {b : Bool} {t : Nat} {z : Rat} (hD : 0 < dp_D b t) (h8 : 8 * dp_a t ≤ 5 * dp_D b t) (hz : (dp_D b t : Rat) * z = (dp_a t : Rat)) (z0 : 0 ≤ z) (hc : dp_chk b dp_row dp_one t = true) (h : Nat) (h1 : 1 ≤ h) (h2 : h ≤ 10000) (k : Nat) : ¬ nb (61094/1000 * (h : Rat) * eS (sg b z) 800 ^ 32 - (k : Rat)) (1/68719476736) := by
  intro hk
  unfold dp_chk at hc
  rw [Bool.and_eq_true, Bool.and_eq_true] at hc
  obtain ⟨s1, s2, s3⟩ := hc
  have s1 := Nat.le_of_ble_eq_true s1
  have s2 := Nat.le_of_ble_eq_true s2
  obtain ⟨t0, es⟩ := dp_num s1
  have hr : dp_row = pk 128 (fun i => i + 1) 10000 := nrow_eq
  have ho : dp_one = pk 128 (fun _ => 1) 10000 := (one_eq (by decide) 10000).symm
  rw [hr, ho] at s3
  have no := lchk_ok (s := dp_s b t) (r := fun i => i + 1) (L := 10000) (by decide) (by decide) (by decide) (fun j hj => Nat.lt_of_le_of_lt (Nat.add_le_add_right (Nat.mul_le_mul s2 (show j + 1 ≤ 10000 by omega)) _) (by decide)) s3 (h - 1) (by omega) k
  have eh : h - 1 + 1 = h := by omega
  have no' : ¬ (k * 2 ^ 90 ≤ dp_s b t * h + 2 ^ (57 - 1) ∧ dp_s b t * h < k * 2 ^ 90 + 2 ^ (57 - 1)) := by
    have := no
    simp only [eh] at this
    exact this
  have cg := cl_gen (q := sqc (2 ^ 160) (ceS b (dp_a t) (dp_D b t) 32)) hD h8 hz z0 (by decide) t0 rfl (fun j _ => ⟨Nat.le_refl _, Nat.le_add_right _ _⟩)
  generalize sqc (2 ^ 160) (ceS b (dp_a t) (dp_D b t) 32) 5 = q5 at *
  generalize eS (sg b z) 800 ^ 32 = T at *
  obtain ⟨d1, d2⟩ := nd_le (q5 * 61094) (1000 * 2 ^ 70) (by decide)
  rw [← es, Rat.natCast_mul q5 61094] at d1 d2
  generalize dp_s b t = s at *
  have c61 : ((61094 : Nat) : Rat) = 61094 := by simp
  have cD : ((1000 * 2 ^ 70 : Nat) : Rat) = 1180591620717411303424000 := by decide +kernel
  have cP : ((2 ^ 160 : Nat) : Rat) = 1461501637330902918203684832716283019655932542976 := by decide +kernel
  rw [c61, cD] at d1 d2
  rw [cP] at cg
  obtain ⟨g1, g2⟩ := cg
  have n1 : nb ((s : Rat) - 61094/1000 * T * 1237940039285380274899124224) 2 := by
    constructor <;> grind
  have hr9 : (h : Rat) ≤ 10000 := by
    have : (h : Rat) ≤ ((10000 : Nat) : Rat) := Rat.natCast_le_natCast.mpr h2
    simpa using this
  have h0 : (0 : Rat) ≤ (h : Rat) := Rat.natCast_nonneg
  have m := nb_mul n1 (show nb (h : Rat) 10000 from ⟨by grind, hr9⟩)
  obtain ⟨m1, m2⟩ := m
  obtain ⟨k1, k2⟩ := hk
  have cF : ((2 ^ 90 : Nat) : Rat) = 1237940039285380274899124224 := by decide +kernel
  have cf : ((2 ^ (57 - 1) : Nat) : Rat) = 72057594037927936 := by decide +kernel
  apply no'
  constructor
  · have : ((k * 2 ^ 90 : Nat) : Rat) ≤ ((s * h + 2 ^ (57 - 1) : Nat) : Rat) := by
      rw [Rat.natCast_mul, Rat.natCast_add, Rat.natCast_mul, cF, cf]; grind
    exact Rat.natCast_le_natCast.mp this
  · have : ((s * h : Nat) : Rat) < ((k * 2 ^ 90 + 2 ^ (57 - 1) : Nat) : Rat) := by
      rw [Rat.natCast_add, Rat.natCast_mul, Rat.natCast_mul, cF, cf]; grind
    exact Rat.natCast_lt_natCast.mp this
/-- every warmth but 0 has been looked at -/
theorem dp_every (b : Bool) (t : Nat) (h1 : 1 ≤ t) (h2 : t ≤ 10000) (h3 : b = true → t ≤ 4000) : dp_chk b dp_row dp_one t = true := by
  have key : ∀ (b : Bool) (t0 : Nat), dp_all b dp_row dp_one 1000 t0 = true → t0 ≤ t → t < t0 + 1000 → dp_chk b dp_row dp_one t = true := fun b t0 h a c => dp_all_ok 1000 t0 h t a c
  cases b with
  | false =>
    by_cases c0 : t < 1001
    · exact key _ _ dc_p0 (by omega) (by omega)
    by_cases c1 : t < 2001
    · exact key _ _ dc_p1 (by omega) (by omega)
    by_cases c2 : t < 3001
    · exact key _ _ dc_p2 (by omega) (by omega)
    by_cases c3 : t < 4001
    · exact key _ _ dc_p3 (by omega) (by omega)
    by_cases c4 : t < 5001
    · exact key _ _ dc_p4 (by omega) (by omega)
    by_cases c5 : t < 6001
    · exact key _ _ dc_p5 (by omega) (by omega)
    by_cases c6 : t < 7001
    · exact key _ _ dc_p6 (by omega) (by omega)
    by_cases c7 : t < 8001
    · exact key _ _ dc_p7 (by omega) (by omega)
    by_cases c8 : t < 9001
    · exact key _ _ dc_p8 (by omega) (by omega)
    exact key _ _ dc_p9 (by omega) (by omega)
  | true =>
    have h3 := h3 rfl
    by_cases c0 : t < 1001
    · exact key _ _ dc_n0 (by omega) (by omega)
    by_cases c1 : t < 2001
    · exact key _ _ dc_n1 (by omega) (by omega)
    by_cases c2 : t < 3001
    · exact key _ _ dc_n2 (by omega) (by omega)
    exact key _ _ dc_n3 (by omega) (by omega)
/-- damp: the class's whole part is the reference's -/
theorem dp_fl {b : Int32} {t h k k' : Nat} {q : Nat → Nat} {B st : Int} (t1 : 1 ≤ t) (t2 : t ≤ 10000) (t3 : decide (¬ b = 0) = true → t ≤ 4000) (h1 : 1 ≤ h) (h2 : h ≤ 10000) (hk : k ≤ 200) (hz : ceT (dp_a t) (dp_D (decide (¬ b = 0)) t) k = 0) (h0 : q 0 = ceS (decide (¬ b = 0)) (dp_a t) (dp_D (decide (¬ b = 0)) t) k) (hs : ∀ j, j < 5 → q (j + 1) ≤ q j * q j / 2 ^ 160 ∧ q j * q j / 2 ^ 160 ≤ q (j + 1) + 4)
    (hB : 10 ^ 66 ≤ B) (hk' : k' ≤ 700) (s0 : 0 ≤ st) (s1 : 2 * st * (dp_D (decide (¬ b = 0)) t : Int) ≤ dp_a t * B) (s2 : dp_a t * B ≤ (2 * st + 4) * (dp_D (decide (¬ b = 0)) t : Int)) (hz' : pwT B st k' = 0) : ((q 5 * (61094 * h) / (2 ^ 160 * 1000) : Nat) : Int) = pwQ B (pwS b B st k') 6 * (61094 * h) / (B * 1000) := by
  have ev := dp_every (decide (¬ b = 0)) t t1 t2 t3
  have hD : 0 < dp_D (decide (¬ b = 0)) t ∧ 8 * dp_a t ≤ 5 * dp_D (decide (¬ b = 0)) t ∧ 3 * dp_a t ≤ 2 * dp_D (decide (¬ b = 0)) t := by
    unfold dp_a dp_D
    by_cases c : b = 0
    · have e : decide (¬ b = 0) = false := decide_eq_false (fun z => z c)
      rw [e]
      show 0 < 256 * (24304 + t) ∧ 8 * (141 * t) ≤ 5 * (256 * (24304 + t)) ∧ 3 * (141 * t) ≤ 2 * (256 * (24304 + t))
      omega
    · have e : decide (¬ b = 0) = true := decide_eq_true c
      have := t3 e
      rw [e]
      show 0 < 256 * (24304 - t) ∧ 8 * (141 * t) ≤ 5 * (256 * (24304 - t)) ∧ 3 * (141 * t) ≤ 2 * (256 * (24304 - t))
      omega
  obtain ⟨hD, h8, h32⟩ := hD
  generalize hbb : decide (¬ b = 0) = bb at *
  have hB0 : 0 < B := Int.lt_of_lt_of_le (by decide) hB
  have hBr : (0 : Rat) < (B : Rat) := by
    have : ((0 : Int) : Rat) < (B : Rat) := Rat.intCast_lt_intCast.mpr hB0
    simpa using this
  have hDr : (0 : Rat) < (dp_D bb t : Rat) := by
    have : ((0 : Nat) : Rat) < (dp_D bb t : Rat) := Rat.natCast_lt_natCast.mpr hD
    simpa using this
  -- the exponent
  have hz9 : (dp_D bb t : Rat) * ((dp_a t : Rat) / (dp_D bb t : Rat)) = (dp_a t : Rat) := by
    have : (dp_D bb t : Rat) ≠ 0 := by grind
    grind
  generalize hzz : (dp_a t : Rat) / (dp_D bb t : Rat) = z at *
  have a0 : (0 : Rat) ≤ (dp_a t : Rat) := Rat.natCast_nonneg
  have z0 : 0 ≤ z := mul_cancel_le hDr (by grind)
  have z58 : z ≤ 5/8 := by
    have r3 : ((8 * dp_a t : Nat) : Rat) ≤ ((5 * dp_D bb t : Nat) : Rat) := Rat.natCast_le_natCast.mpr h8
    rw [Rat.natCast_mul, Rat.natCast_mul] at r3
    have c8 : ((8 : Nat) : Rat) = 8 := by simp
    have c5 : ((5 : Nat) : Rat) = 5 := by simp
    rw [c8, c5, ← hz9] at r3
    exact mul_cancel_le hDr (by grind)
  have c := cl_gen hD h8 hz9 z0 hk hz h0 hs
  obtain ⟨yn, yx⟩ := eS_bd (b := bb) z0 z58
  -- the reference's step
  have hw : (B : Rat) * ((st : Rat) / (B : Rat)) = (st : Rat) := by
    have : (B : Rat) ≠ 0 := by grind
    grind
  generalize hww : (st : Rat) / (B : Rat) = w at *
  have st0 : (0 : Rat) ≤ (st : Rat) := by
    have : ((0 : Int) : Rat) ≤ (st : Rat) := Rat.intCast_le_intCast.mpr s0
    simpa using this
  have w0 : 0 ≤ w := mul_cancel_le hBr (by grind)
  have r1 : ((2 * st * (dp_D bb t : Int) : Int) : Rat) ≤ ((dp_a t * B : Int) : Rat) := Rat.intCast_le_intCast.mpr s1
  have r2 : ((dp_a t * B : Int) : Rat) ≤ (((2 * st + 4) * (dp_D bb t : Int) : Int) : Rat) := Rat.intCast_le_intCast.mpr s2
  rw [Rat.intCast_mul, Rat.intCast_mul, Rat.intCast_mul] at r1
  rw [Rat.intCast_mul, Rat.intCast_mul, Rat.intCast_add, Rat.intCast_mul] at r2
  have i2 : ((2 : Int) : Rat) = 2 := by simp
  have i4 : ((4 : Int) : Rat) = 4 := by simp
  have iD : (((dp_D bb t : Nat) : Int) : Rat) = (dp_D bb t : Rat) := rfl
  have ia : (((dp_a t : Nat) : Int) : Rat) = (dp_a t : Rat) := rfl
  rw [i2, iD, ia] at r1
  rw [ia, i2, i4, iD] at r2
  rw [← hz9, ← hw] at r1 r2
  have hDB := Rat.mul_pos hDr hBr
  have d0 : 0 ≤ z - (w + w) := mul_cancel_le hDB (by grind)
  have d9 : (B : Rat) * (z - (w + w)) ≤ 4 := mul_cancel_le hDr (by grind)
  have d8 : z - (w + w) ≤ 1 / ((2 ^ 210 : Nat) : Rat) := by
    have h : ((10 ^ 66 : Int) : Rat) ≤ (B : Rat) := Rat.intCast_le_intCast.mpr hB
    have d : (4 : Rat) ≤ ((10 ^ 66 : Int) : Rat) * (1 / ((2 ^ 210 : Nat) : Rat)) := by decide +kernel
    have p : (0 : Rat) ≤ 1 / ((2 ^ 210 : Nat) : Rat) := by decide +kernel
    generalize (1 / ((2 ^ 210 : Nat) : Rat) : Rat) = τ at *
    have m := Rat.mul_le_mul_of_nonneg_right h p
    exact mul_cancel_le hBr (by grind)
  have sq := sq_dn (b := bb) (w := w) (z := z) (d := z - (w + w)) w0 (by grind) d0 d8 z58
  have h3 : 3 * st ≤ B := by
    have k1 : 3 * (2 * st * (dp_D bb t : Int)) ≤ 3 * (dp_a t * B) := by omega
    have k2 : (3 * (dp_a t : Int)) * B ≤ (2 * (dp_D bb t : Int)) * B := Int.mul_le_mul_of_nonneg_right (by omega) (by omega)
    have k3 : 3 * st * (2 * (dp_D bb t : Int)) ≤ B * (2 * (dp_D bb t : Int)) := by
      have e1 : 3 * (2 * st * (dp_D bb t : Int)) = 3 * st * (2 * (dp_D bb t : Int)) := by grind
      have e2 : 3 * ((dp_a t : Int) * B) = 3 * (dp_a t : Int) * B := by grind
      have e3 : 2 * (dp_D bb t : Int) * B = B * (2 * (dp_D bb t : Int)) := by grind
      omega
    exact Int.le_of_mul_le_mul_right k3 (by omega)
  have r := rf_gen (b := b) (T := eS (sg bb z) 800) hB hk' s0 h3 hw w0 (by
    have h3r : 3 * (st : Rat) ≤ (B : Rat) := by
      have : ((3 * st : Int) : Rat) ≤ (B : Rat) := Rat.intCast_le_intCast.mpr h3
      rw [Rat.intCast_mul] at this
      simpa using this
    rw [← hw] at h3r
    exact mul_cancel_le hBr (by grind)) hz' yn yx (by rw [hbb]; exact sq)
  have n := fun k => dp_ni (b := bb) (t := t) (z := z) hD h8 hz9 z0 ev h h1 h2 k
  have hn : 0 ≤ pwQ B (pwS b B st k') 6 := by
    show 0 ≤ pwQ B (pwS b B st k') 5 * pwQ B (pwS b B st k') 5 / B
    refine Int.ediv_nonneg ?_ (Int.le_of_lt hB0)
    generalize pwQ B (pwS b B st k') 5 = q
    rcases (show 0 ≤ q ∨ q ≤ 0 by omega) with h | h
    · exact Int.mul_nonneg h h
    · have := Int.mul_nonneg (show 0 ≤ -q by omega) (show 0 ≤ -q by omega)
      rw [Int.neg_mul_neg] at this
      exact this
  have hr9 : (h : Rat) ≤ 10000 := by
    have : (h : Rat) ≤ ((10000 : Nat) : Rat) := Rat.natCast_le_natCast.mpr h2
    simpa using this
  have hr0 : (0 : Rat) ≤ (h : Rat) := Rat.natCast_nonneg
  generalize eS (sg bb z) 800 ^ 32 = T at *
  refine fl_eq (V := 61094/1000 * (h : Rat) * T) (t := 1/68719476736) (by decide) (by omega) (Int.mul_nonneg hn (by omega)) ?_ ?_ n
  · rw [Rat.natCast_mul, Rat.natCast_mul, Rat.natCast_mul]
    have e : ((61094 : Nat) : Rat) = 61094 := by simp
    have e2 : ((1000 : Nat) : Rat) = 1000 := by simp
    rw [e, e2]
    have d : (20000000000000 * 610940000 : Rat) ≤ ((2 ^ 160 : Nat) : Rat) * 1000 * (1/68719476736) := by decide +kernel
    generalize ((2 ^ 160 : Nat) : Rat) = P at *
    have m := nb_mul c (show nb (61094 * (h : Rat)) 610940000 from ⟨by grind, by grind⟩)
    obtain ⟨u, v⟩ := m
    constructor <;> grind
  · rw [Rat.intCast_mul, Rat.intCast_mul, Rat.intCast_mul]
    have e : ((61094 : Int) : Rat) = 61094 := by simp
    have e2 : ((1000 : Int) : Rat) = 1000 := by simp
    have e3 : (((h : Nat) : Int) : Rat) = (h : Rat) := rfl
    rw [e, e2, e3]
    have d : 1 / ((2 ^ 160 : Nat) : Rat) * 610940000 ≤ 1000 * (1/68719476736) := by decide +kernel
    generalize (1 / ((2 ^ 160 : Nat) : Rat) : Rat) = P at *
    have m := nb_mul r (show nb (61094 * (h : Rat)) 610940000 from ⟨by grind, by grind⟩)
    have m9 := Rat.mul_le_mul_of_nonneg_right d (Rat.le_of_lt hBr)
    obtain ⟨u, v⟩ := m
    generalize (B : Rat) = β at *
    constructor <;> grind
