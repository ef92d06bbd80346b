/-! the reference's logarithm: e to it -/
def e95 : Rat := 1 / ((2 ^ 195 : Nat) : Rat)
theorem e95_ok : 0 ≤ e95 ∧ e95 ≤ 1/1000000000000000000000000 ∧ 1000000000000000000000000 * t4 ≤ e95 := by decide +kernel
theorem b_big {f : Nat} (hf : f = 11 ∨ f = 17) : (2000 : Rat) ≤ (((1000000 : Int) ^ f : Int) : Rat) * e95 := by rcases hf with h | h <;> subst h <;> decide +kernel
/-- pure numbers: e to twice the sum -/
theorem ra_ee {B z S q v : Rat} (hB : 0 < B) (hBe : 2000 ≤ B * e95) (z0 : 0 ≤ z) (z3 : z ≤ 1/3) (q0 : 0 < q) (v0 : 0 ≤ v) (h1 : q * (B * z) ≤ v * B) (h2 : v * B ≤ q * (B * z) + q) (hS : nb (S - B * oS 1 z 400) 200) {l : Rat} (hl : B * l = 2 * S) : nb l 1 ∧ nb (ee l * (q - v) - (q + v)) (e95 * (q + v)) := by
  obtain ⟨e0, e1, e2⟩ := e95_ok
  have t0 := t4_0
  have lm := lg_main z0 z3
  have o0 := oS_nn (a := 1) rfl z0 400
  have ob := (oS_bd (a := 1) (Or.inl rfl) z0 z3 400).2
  generalize hW : oS 1 z 400 = W at *
  have ob' : W ≤ 3/8 := by grind
  -- the difference
  have hd : nb (B * (l - 2 * W)) 400 := by
    obtain ⟨a1, a2⟩ := hS
    constructor <;> grind
  have dl : nb (l - 2 * W) (1/5 * e95) := by
    obtain ⟨a1, a2⟩ := hd
    constructor
    · exact mul_cancel_le hB (by grind)
    · exact mul_cancel_le hB (by grind)
  have nl : nb l 1 := by
    obtain ⟨a1, a2⟩ := dl
    constructor <;> grind
  refine ⟨nl, ?_⟩
  have k1 := ee_add (u := 2 * W) (v := l - 2 * W) (α := 1) (β := 1) ⟨by grind, by grind⟩ (nb_mono dl (by grind)) (by decide +kernel)
  rw [show 2 * W + (l - 2 * W) = l by grind] at k1
  have k2 := ee_tiny dl (show 1/5 * e95 ≤ 1/2 by grind)
  have X0 := Rat.le_of_lt (ee_pos (x := 2 * W) (α := 1) ⟨by grind, by grind⟩ (by decide +kernel))
  -- X (1 - z) = 1 + z
  have hw : (1 + z) * (1 / (1 + z)) = 1 := by
    have : 1 + z ≠ 0 := by grind
    grind
  generalize 1 / (1 + z) = w at *
  generalize ee (2 * W) = X at *
  generalize ee (l - 2 * W) = Y at *
  generalize ee l = Z at *
  have x1 : nb (X * (1 - z) - (1 + z)) (2 * t4) := by
    have m := nb_mul lm (show nb (1 + z) 2 from ⟨by grind, by grind⟩)
    rw [show (X * (2 * w + -1) - 1) * (1 + z) = X * (2 * ((1 + z) * w) - (1 + z)) - (1 + z) by grind, hw] at m
    rw [show X * (2 * 1 - (1 + z)) - (1 + z) = X * (1 - z) - (1 + z) by grind] at m
    exact nb_mono m (by grind)
  have X3 : X ≤ 3 := by
    have m := Rat.mul_nonneg X0 (show 0 ≤ 1/3 - z by grind)
    have := x1.2
    grind
  have ee0 := Rat.mul_nonneg e0 e0
  have ee1 := Rat.mul_le_mul_of_nonneg_left e1 e0
  have y1 : nb (Y - 1) (1/4 * e95) := nb_mono k2 (by grind)
  have m1 := nb_mul (show nb X 3 from ⟨by grind, X3⟩) y1
  have zX : nb (Z - X) (4/5 * e95) := by
    obtain ⟨a1, a2⟩ := m1
    obtain ⟨b1, b2⟩ := k1
    constructor <;> grind
  have qv : 0 ≤ v - q * z ∧ v - q * z ≤ q * (1/2000 * e95) := by
    constructor
    · exact mul_cancel_le hB (by grind)
    · refine mul_cancel_le hB ?_
      have := Rat.mul_le_mul_of_nonneg_left hBe (Rat.le_of_lt q0)
      grind
  have qz := Rat.mul_le_mul_of_nonneg_left z3 (Rat.le_of_lt q0)
  have qz0 := Rat.mul_nonneg (Rat.le_of_lt q0) z0
  have qe := Rat.mul_nonneg (Rat.le_of_lt q0) e0
  have qe1 := Rat.mul_le_mul_of_nonneg_left e1 (Rat.le_of_lt q0)
  have vq : v ≤ q := by grind
  have a := nb_mul x1 (show nb q q from ⟨by grind, by grind⟩)
  have b := nb_mul (show nb (v - q * z) (q * (1/2000 * e95)) from ⟨by grind, qv.2⟩) (show nb (X + 1) 4 from ⟨by grind, by grind⟩)
  have c := nb_mul zX (show nb (q - v) q from ⟨by grind, by grind⟩)
  have tq := Rat.mul_le_mul_of_nonneg_left e2 (Rat.le_of_lt q0)
  have ve := Rat.mul_nonneg v0 e0
  obtain ⟨a1, a2⟩ := a
  obtain ⟨b1, b2⟩ := b
  obtain ⟨c1, c2⟩ := c
  constructor <;> grind
/-- pure numbers: the two parts together -/
theorem lo_ee {l1 l2 v T : Rat} {k : Nat} (hk : k ≤ 39) (hT : T = 2 ^ k) (v1 : 0 < v) (n1 : nb l1 1) (n2 : nb l2 1) (l10 : 0 ≤ l1) (h1 : nb (ee l1 * (3 - 1) - (3 + 1)) (e95 * (3 + 1))) (h2 : nb (ee l2 * (2 * T) - 2 * v) (e95 * (2 * v))) (hv : 1 ≤ v) : nb (ee (l2 + (k : Rat) * l1) - v) (100 * e95 * v) := by
  obtain ⟨e0, e1, e2⟩ := e95_ok
  have t0 := t4_0
  have a1 : nb (ee l1 - 2) (2 * e95) := by
    obtain ⟨x1, x2⟩ := h1
    constructor <;> grind
  have k2 := ee_two l10 n1.2 (show 8 * t4 ≤ 2 * e95 by grind) (show 2 * e95 ≤ 1/1000 by grind) a1 k (by omega)
  have kr : (k : Rat) ≤ 39 := by
    have : (k : Rat) ≤ ((39 : Nat) : Rat) := Rat.natCast_le_natCast.mpr hk
    simpa using this
  have k0 : (0 : Rat) ≤ (k : Rat) := Rat.natCast_nonneg
  have kl := Rat.mul_nonneg k0 l10
  have kl2 : (k : Rat) * l1 ≤ 39 := by
    have m := Rat.mul_le_mul_of_nonneg_left n1.2 k0
    grind
  have k3 := ee_add (u := l2) (v := (k : Rat) * l1) (α := 1) (β := 39) n2 ⟨by grind, kl2⟩ (by decide +kernel)
  have A0 := Rat.le_of_lt (ee_pos (x := l2) (α := 1) n2 (by decide +kernel))
  rw [← hT] at k2
  have T0 : 0 < T := by rw [hT]; exact rp_pos (by decide +kernel) k
  generalize ee (l2 + (k : Rat) * l1) = Z at *
  generalize ee l2 = A at *
  generalize ee ((k : Rat) * l1) = C at *
  have c1 : nb (C - T) (T * (78 * e95)) := by
    refine nb_mono k2 ?_
    have m := Rat.mul_le_mul_of_nonneg_right kr (show 0 ≤ 2 * e95 by grind)
    exact Rat.mul_le_mul_of_nonneg_left (by grind) (Rat.le_of_lt T0)
  have at' : nb (A * T - v) (e95 * v) := by
    obtain ⟨x1, x2⟩ := h2
    constructor <;> grind
  have AT2 : A * T ≤ 2 * v := by
    have m := Rat.mul_le_mul_of_nonneg_right e1 (Rat.le_of_lt v1)
    have := at'.2
    grind
  have AT0 := Rat.mul_nonneg A0 (Rat.le_of_lt T0)
  have m1 := nb_mul (show nb A A from ⟨by grind, by grind⟩) c1
  have m2 := Rat.mul_le_mul_of_nonneg_right at'.2 (show 0 ≤ 78 * e95 by grind)
  have m3 := Rat.mul_le_mul_of_nonneg_right e1 (show 0 ≤ e95 * v from Rat.mul_nonneg e0 (Rat.le_of_lt v1))
  have ev := Rat.mul_le_mul_of_nonneg_left hv e0
  obtain ⟨x1, x2⟩ := m1
  obtain ⟨y1, y2⟩ := at'
  obtain ⟨z1, z2⟩ := k3
  constructor <;> grind
theorem two_rat (k : Nat) : (((2 : Int) ^ k : Int) : Rat) = 2 ^ k := by
  induction k with
  | zero => rfl
  | succ k ih => rw [Int.pow_succ, Rat.intCast_mul, ih, Rat.pow_succ]; rfl
/-- logarithmOf -/
theorem lor_val {f : Nat} {v : Int64} {g p : Nat → Int64} (hf : f = 11 ∨ f = 17) (h0 : 0 < v.toInt) (hv : v.toInt ≤ 1000000000000) :
    ok 0 (lor f v g p).1 ∧ (∀ s, (s ≠ 0 ∧ s ≠ 1 ∧ s ≠ 2 ∧ s ≠ 3 ∧ s ≠ 5) → ok s g → ok s (lor f v g p).1 ∧ vv s (lor f v g p).1 24 = vv s g 24) ∧ 0 ≤ vv 0 (lor f v g p).1 24 ∧ vv 0 (lor f v g p).1 24 ≤ 100 * 1000000 ^ f ∧ ∃ r : Rat, (((1000000 : Int) ^ f : Int) : Rat) * r = (vv 0 (lor f v g p).1 24 : Rat) ∧ nb r 50 ∧ nb (ee r - (v.toInt : Rat)) (100 * e95 * (v.toInt : Rat)) := by
  have f20 : f ≤ 20 := by omega
  have hB := pw_pos f
  have hBr : (0 : Rat) < (((1000000 : Int) ^ f : Int) : Rat) := by
    have : ((0 : Int) : Rat) < (((1000000 : Int) ^ f : Int) : Rat) := Rat.intCast_lt_intCast.mpr hB
    simpa using this
  have hBe := b_big hf
  obtain ⟨g1, g2, g3⟩ := lgk_two h0 hv
  obtain ⟨g4, g5⟩ := lg_ve h0 hv
  obtain ⟨g6, -, -⟩ := lgk_ok hv
  have g7 := lg_two_eq (lgk v) (by omega)
  obtain ⟨-, s1, s2⟩ := lo_s1 (f := f) (g := g) (p := p) f20
  obtain ⟨-, s3, s4⟩ := lo_s2 (f := f) (v := v) (g := g) (p := p) f20 h0 hv
  have kI : (nI (lgk v)).toInt64.toInt = ((lgk v : Nat) : Int) := nI_L (by omega)
  have vd : 0 ≤ (v - lg_two (lgk v)).toInt ∧ (v - lg_two (lgk v)).toInt ≤ 1000000000000 ∧ 0 < (v + lg_two (lgk v)).toInt ∧ (v + lg_two (lgk v)).toInt ≤ 9000000000000 ∧ 3 * (v - lg_two (lgk v)).toInt ≤ (v + lg_two (lgk v)).toInt ∧ 2 * (v - lg_two (lgk v)).toInt ≤ (v + lg_two (lgk v)).toInt := by rw [g4, g5]; omega
  obtain ⟨v1, v2, v3, v4, v5, v6⟩ := vd
  obtain ⟨k1, o1, n1, z1, hz1, z10, z13, S1⟩ := ra_sum (f := f) (v := 1) (q := 3) (g := g) (p := p) hf (by decide) (by decide) (by decide) (by decide) (by decide) s1 s2
  obtain ⟨k2, o2, n2, z2, hz2, z20, z23, S2⟩ := ra_sum hf v1 v2 v3 v4 v5 s3 s4
  -- sizes of the sums
  have Sb : ∀ (S : Int) (z : Rat), 0 ≤ z → z ≤ 1/3 → nb ((S : Rat) - (((1000000 : Int) ^ f : Int) : Rat) * oS 1 z 400) 200 → 2 * S ≤ 1000000 ^ f := fun S z z0 z3 hS => by
    have ob := (oS_bd (a := 1) (Or.inl rfl) z0 z3 400).2
    have m := Rat.mul_le_mul_of_nonneg_left (show oS 1 z 400 ≤ 3/8 by grind) (Rat.le_of_lt hBr)
    have n : (1600 : Rat) ≤ (((1000000 : Int) ^ f : Int) : Rat) := by rcases hf with h | h <;> subst h <;> decide +kernel
    have r : ((2 * S : Int) : Rat) ≤ (((1000000 : Int) ^ f : Int) : Rat) := by
      rw [Rat.intCast_mul]
      have e : ((2 : Int) : Rat) = 2 := by simp
      rw [e]
      have := hS.2
      grind
    exact Rat.intCast_le_intCast.mp r
  have b1 := Sb _ _ z10 z13 S1
  have b2 := Sb _ _ z20 z23 S2
  have r100 := wh_room (f := f) (v := 1000) (by omega) (by decide) (by decide)
  -- the walk
  have E : (lor f v g p).1 = mr_add 0 3 (mr_tim 0 2 (ra_it f (v - lg_two (lgk v)) (v + lg_two (lgk v)) (lo_a f (lgk v) g p (lok1 f g p)).1 (lo_a f (lgk v) g p (lok1 f g p)).2 (lok2 f v g p)).1) := rfl
  have Ea : (lo_a f (lgk v) g p (lok1 f g p)).1 = mr_cp 3 0 (mr_tim 0 (nI (lgk v)).toInt64 (mr_tim 0 2 (ra_it f 1 3 g p (lok1 f g p)).1)) := rfl
  have f1 := fun s (hs : s ≠ 0 ∧ s ≠ 1 ∧ s ≠ 2 ∧ s ≠ 5) (os : ok s g) => ra_fr (f := f) (v := 1) (q := 3) (g := g) (p := p) f20 (by decide) (by decide) (by decide) (by decide) (by decide) hs os (lok1 f g p) (Nat.le_trans k1 (by decide))
  have f2 := fun s (hs : s ≠ 0 ∧ s ≠ 1 ∧ s ≠ 2 ∧ s ≠ 5) (os : ok s (lo_a f (lgk v) g p (lok1 f g p)).1) => ra_fr (f := f) (p := (lo_a f (lgk v) g p (lok1 f g p)).2) f20 v1 v2 v3 v4 v6 hs os (lok2 f v g p) (Nat.le_trans k2 (by decide))
  rw [E]
  generalize hG2 : (ra_it f (v - lg_two (lgk v)) (v + lg_two (lgk v)) (lo_a f (lgk v) g p (lok1 f g p)).1 (lo_a f (lgk v) g p (lok1 f g p)).2 (lok2 f v g p)).1 = G2 at *
  generalize hGa : (lo_a f (lgk v) g p (lok1 f g p)).1 = Ga at *
  generalize hG1 : (ra_it f 1 3 g p (lok1 f g p)).1 = G1 at *
  have e2 : (2 : Int64).toInt = 2 := rfl
  have t1 := tim_ok (r := 0) (m := 2) o1 (by decide) (by decide)
  have t1v := t1.2.2
  have t2 := tim_ok (r := 0) (m := (nI (lgk v)).toInt64) t1.1 (by rw [kI]; omega) (by rw [kI]; omega)
  have t2v := t2.2.2
  have c3 := cp_ok (r := 3) (a := 0) (by decide) t2.1
  rw [← Ea] at c3
  have t3 := tim_ok (r := 0) (m := 2) o2 (by decide) (by decide)
  have t3v := t3.2.2
  obtain ⟨o3, w3⟩ := f2 3 (by decide) c3.1
  have o3' := fr_ok t3.2.1 (s := 3) (by decide) o3
  have ad := add_ok (r := 0) (a := 3) (by decide) t3.1 o3'
  have adv := ad.2.2
  rw [fr_vv (s := 3) t3.2.1 (by decide), w3, c3.2.2] at adv
  rw [kI] at t2v
  rw [e2] at t1v t3v
  have w5 : ∀ s, (s ≠ 0 ∧ s ≠ 1 ∧ s ≠ 2 ∧ s ≠ 3 ∧ s ≠ 5) → ok s g → ok s (mr_add 0 3 (mr_tim 0 2 G2)) ∧ vv s (mr_add 0 3 (mr_tim 0 2 G2)) 24 = vv s g 24 := fun s hs os => by
    obtain ⟨i1, i2⟩ := f1 s ⟨hs.1, hs.2.1, hs.2.2.1, hs.2.2.2.2⟩ os
    have j1 := fr_ok t2.2.1 hs.1 (fr_ok t1.2.1 hs.1 i1)
    have j2 := fr_ok c3.2.1 hs.2.2.2.1 j1
    obtain ⟨i3, i4⟩ := f2 s ⟨hs.1, hs.2.1, hs.2.2.1, hs.2.2.2.2⟩ j2
    exact ⟨fr_ok ad.2.1 hs.1 (fr_ok t3.2.1 hs.1 i3), by rw [fr_vv ad.2.1 hs.1, fr_vv t3.2.1 hs.1, i4, fr_vv c3.2.1 hs.2.2.2.1, fr_vv t2.2.1 hs.1, fr_vv t1.2.1 hs.1, i2]⟩
  refine ⟨ad.1, w5, ?_⟩
  clear w5 f1 f2 ad o3' t3 c3 t2 t1 E
  generalize vv 0 (mr_add 0 3 (mr_tim 0 2 G2)) 24 = L at *
  generalize vv 0 (mr_tim 0 2 G2) 24 = L2 at *
  generalize vv 0 (mr_tim 0 (nI (lgk v)).toInt64 (mr_tim 0 2 G1)) 24 = L1k at *
  generalize vv 0 (mr_tim 0 2 G1) 24 = L1 at *
  generalize vv 0 G2 24 = Sv at *
  generalize vv 0 G1 24 = S3 at *
  clear hG2 hGa hG1 Ea s1 s2 s3 s4 o1 o2 o3 w3
  generalize hK : lgk v = k at *
  have lf := pw_one (f := f) (by omega)
  have a1 := t1v (by generalize (1000000 : Int) ^ 24 = P at *; generalize (1000000 : Int) ^ f = B at *; omega)
  have kb : L1 * (k : Int) ≤ 39 * 1000000 ^ f := by
    have m1 := Int.mul_le_mul_of_nonneg_right (show L1 ≤ 1000000 ^ f by omega) (show (0 : Int) ≤ (k : Int) by omega)
    have m2 := Int.mul_le_mul_of_nonneg_left (show (k : Int) ≤ 39 by omega) (Int.le_of_lt hB)
    have e : (1000000 : Int) ^ f * 39 = 39 * 1000000 ^ f := Int.mul_comm _ _
    omega
  have kb0 : 0 ≤ L1 * (k : Int) := Int.mul_nonneg (by omega) (by omega)
  have a2 := t2v (by generalize (1000000 : Int) ^ 24 = P at *; generalize (1000000 : Int) ^ f = B at *; generalize L1 * (k : Int) = M at *; omega)
  have a3 := t3v (by generalize (1000000 : Int) ^ 24 = P at *; generalize (1000000 : Int) ^ f = B at *; omega)
  have a4 := adv (by generalize (1000000 : Int) ^ 24 = P at *; generalize (1000000 : Int) ^ f = B at *; generalize L1 * (k : Int) = M at *; omega)
  refine ⟨by generalize L1 * (k : Int) = M at *; omega, by generalize (1000000 : Int) ^ f = B at *; generalize L1 * (k : Int) = M at *; omega, ?_⟩
  -- over Rat
  have dvx : ∀ S : Int, ∃ l : Rat, (((1000000 : Int) ^ f : Int) : Rat) * l = 2 * (S : Rat) := fun S => ⟨2 * (S : Rat) / (((1000000 : Int) ^ f : Int) : Rat), by
    have : (((1000000 : Int) ^ f : Int) : Rat) ≠ 0 := by grind
    generalize (((1000000 : Int) ^ f : Int) : Rat) = B at *
    grind⟩
  obtain ⟨l1, hl1⟩ := dvx S3
  obtain ⟨l2, hl2⟩ := dvx Sv
  have rr1 := rd_le (p := (1 : Int64).toInt * 1000000 ^ f) (q := (3 : Int64).toInt) (by decide)
  have rr2 := rd_le (p := (v - lg_two k).toInt * 1000000 ^ f) (q := (v + lg_two k).toInt) v3
  rw [← hz1, Rat.intCast_mul] at rr1
  rw [← hz2, Rat.intCast_mul] at rr2
  have i1 : (((1 : Int64).toInt : Int) : Rat) = 1 := by decide
  have i3 : (((3 : Int64).toInt : Int) : Rat) = 3 := by decide
  rw [i1, i3] at rr1
  have v3r : (0 : Rat) < ((v + lg_two k).toInt : Rat) := by
    have : ((0 : Int) : Rat) < ((v + lg_two k).toInt : Rat) := Rat.intCast_lt_intCast.mpr v3
    simpa using this
  have v1r : (0 : Rat) ≤ ((v - lg_two k).toInt : Rat) := by
    have : ((0 : Int) : Rat) ≤ ((v - lg_two k).toInt : Rat) := Rat.intCast_le_intCast.mpr v1
    simpa using this
  obtain ⟨m1, q1⟩ := ra_ee hBr hBe z10 z13 (by decide +kernel) (by decide +kernel) rr1.1 rr1.2 S1 hl1
  obtain ⟨m2, q2⟩ := ra_ee hBr hBe z20 z23 v3r v1r rr2.1 rr2.2 S2 hl2
  rw [g4, g5, g7, Rat.intCast_sub, Rat.intCast_add, two_rat] at q2
  have vr : (1 : Rat) ≤ (v.toInt : Rat) := by
    have : ((1 : Int) : Rat) ≤ (v.toInt : Rat) := Rat.intCast_le_intCast.mpr (by omega)
    simpa using this
  have l10 : 0 ≤ l1 := by
    refine mul_cancel_le hBr ?_
    rw [hl1]
    have : ((0 : Int) : Rat) ≤ (S3 : Rat) := Rat.intCast_le_intCast.mpr n1
    have e : ((0 : Int) : Rat) = 0 := rfl
    rw [e] at this
    grind
  have fin := lo_ee (l1 := l1) (l2 := l2) (v := (v.toInt : Rat)) (T := 2 ^ k) (k := k) g6 rfl (by grind) m1 m2 l10 q1 (by
    generalize (2 : Rat) ^ k = T at *
    rw [show (v.toInt : Rat) + T - ((v.toInt : Rat) - T) = 2 * T by grind, show (v.toInt : Rat) + T + ((v.toInt : Rat) - T) = 2 * (v.toInt : Rat) by grind] at q2
    exact q2) vr
  refine ⟨l2 + (k : Rat) * l1, ?_, ?_, fin⟩
  · rw [a4, a2, a3, a1, Rat.intCast_add, Rat.intCast_mul, Rat.intCast_mul, Rat.intCast_mul]
    have e : ((2 : Int) : Rat) = 2 := by simp
    have ek : (((k : Nat) : Int) : Rat) = (k : Rat) := rfl
    rw [e, ek]
    generalize (((1000000 : Int) ^ f : Int) : Rat) = B at *
    grind
  · have kr : (k : Rat) ≤ 39 := by
      have : (k : Rat) ≤ ((39 : Nat) : Rat) := Rat.natCast_le_natCast.mpr g6
      simpa using this
    have k0 : (0 : Rat) ≤ (k : Rat) := Rat.natCast_nonneg
    have kl := Rat.mul_nonneg k0 l10
    have kl2 := Rat.mul_le_mul_of_nonneg_left m1.2 k0
    obtain ⟨x1, x2⟩ := m2
    constructor <;> grind
