/-! no whole number of billionths is the angle of a point in a block -/
theorem gX_ml (k X0 X1 X2 n : Rat) : ∀ T, gX (k * X0) (k * X1) (k * X2) n T = k * gX X0 X1 X2 n T
  | [] => by show (0 : Rat) = k * 0; grind
  | (a, b, d) :: l => by
    have ih := gX_ml k X0 X1 X2 n l
    show ((a + d : Int) : Rat) * (k * X0) + ((a - d : Int) : Rat) * (k * X1) + (b : Rat) * (k * X2) + n * gX (k * X0) (k * X1) (k * X2) n l = k * (((a + d : Int) : Rat) * X0 + ((a - d : Int) : Rat) * X1 + (b : Rat) * X2 + n * gX X0 X1 X2 n l)
    rw [ih]; grind
theorem nb_sq {x e : Rat} (h : nb x e) : x * x ≤ e * e := (nb_mul h h).2
theorem int_zero {F : Int} (h : nb (F : Rat) (199/200 + 1/1000)) : F = 0 := by
  obtain ⟨h1, h2⟩ := h
  have a1 : F < 1 := by
    have : (F : Rat) < ((1 : Int) : Rat) := by
      have e : ((1 : Int) : Rat) = 1 := rfl
      rw [e]; grind
    exact Rat.intCast_lt_intCast.mp this
  have a2 : -1 < F := by
    have : ((-1 : Int) : Rat) < (F : Rat) := by
      have e : ((-1 : Int) : Rat) = -1 := rfl
      rw [e]; grind
    exact Rat.intCast_lt_intCast.mp this
  omega
/-- pure numbers: the form's size -/
theorem an_size {F e δ u G1 G2 G3 U Q eb η Rr ρ db κ sb sb1 m : Rat} (hU : 0 < U) (hu : nb (u - 1) (1/1000000)) (he : e * e ≤ Rr) (heb : nb e eb) (hδ : nb δ η) (hF : 2 * (u * u) * F = (e * e) * G1 + 2 * (e * δ) * G2 + (δ * δ) * G3) (h1 : nb (U * G1) Q) (h2 : nb G2 (ρ * db + m * (ρ * sb1))) (h3 : nb G3 (ρ * sb)) (hdb : 0 ≤ db)
    (n1 : 2 * eb * η * U * ρ ≤ Rr * κ) (n2 : Rr * (Q + κ * db) + 2 * eb * η * U * (m * (ρ * sb1)) + η * η * U * (ρ * sb) ≤ 199/100 * U) : nb F (199/200 + 1/1000) := by
  have e0 := sq_nn e
  have q1 := nb_mul (show nb (e * e) Rr from ⟨by grind, he⟩) h1
  have q2 := nb_mul (nb_mul heb hδ) h2
  have q3 := nb_mul (nb_mul hδ hδ) h3
  have m1 := Rat.mul_le_mul_of_nonneg_right n1 hdb
  have q2' := nb_mul (show nb U U from ⟨by grind, by grind⟩) q2
  have q3' := nb_mul (show nb U U from ⟨by grind, by grind⟩) q3
  have key : nb (U * (2 * (u * u) * F)) (199/100 * U) := by
    rw [hF]
    obtain ⟨a1, a2⟩ := q1
    obtain ⟨b1, b2⟩ := q2'
    obtain ⟨c1, c2⟩ := q3'
    constructor <;> grind
  have uu : 199/100 + 9/1000 ≤ 2 * (u * u) := by
    have := sq_nn (u - 1)
    obtain ⟨u1, u2⟩ := hu
    grind
  obtain ⟨k1, k2⟩ := key
  have d1 : 2 * (u * u) * F ≤ 199/100 := mul_cancel_le hU (by grind)
  have d2 : -(199/100) ≤ 2 * (u * u) * F := mul_cancel_le hU (by grind)
  have up : 0 < 2 * (u * u) := by grind
  constructor
  · refine mul_cancel_le up ?_
    grind
  · refine mul_cancel_le up ?_
    grind
/-- the constants of a row of blocks -/
def anZ (P h nl e κ L M K w W : Nat) (ks : List (List Int)) (gs gs3 : List Nat) (E η : Rat) : Prop :=
  0 < h ∧ P = 2 * h ∧ dtN gs (ks.map mxA) < h ∧ (∀ k, k ∈ ks → k.length ≤ nl) ∧ nl ≤ e ∧ K ≤ 800
  ∧ nrK (rlA ((2 ^ (w + W) : Nat) : Rat) ((2 ^ w : Nat) : Rat) ((M + 1 : Nat) : Rat) (plC (lsF (cr (2 * ((M + 1 : Nat) : Rat) / 1000000000)) (K + 1))) (plC (lsF (ci (2 * ((M + 1 : Nat) : Rat) / 1000000000)) (K + 1))) 0 4) ks = true
  ∧ 2 * ((M + 1 : Nat) : Rat) / 1000000000 ≤ 1/4
  ∧ 2 * 1414300 * η * ((2 ^ (w + W) : Nat) : Rat) * (1000001/1000000) ≤ 2000002000000 * (κ : Rat)
  ∧ 2000002000000 * ((L : Rat) + dtE gs (epA (e : Rat) ((2 ^ w : Nat) : Rat) ((M + 1 : Nat) : Rat) (eT (2 * ((M + 1 : Nat) : Rat) / 1000000000) K) 0 4) + (2 * (((2 ^ (w + W) : Nat) : Rat) * t4) + 4 * (((2 ^ w : Nat) : Rat) * E)) * sB ((M + 1 : Nat) : Rat) gs3) + 2 * 1414300 * η * ((2 ^ (w + W) : Nat) : Rat) * (((M + 1 : Nat) : Rat) * ((1000001/1000000) * sB ((M + 1 : Nat) : Rat) gs3.tail)) + η * η * ((2 ^ (w + W) : Nat) : Rat) * ((1000001/1000000) * sB ((M + 1 : Nat) : Rat) gs3) ≤ 199/100 * ((2 ^ (w + W) : Nat) : Rat)
/-- the check of one block -/
def anB (P h nl κ L : Nat) (off : Int) (pks : List Int) (gs gs3 : List Nat) (C S : Int) (T : List (Int × Int × Int)) : Bool :=
  oddT T && (bd3 T gs3 && (bdm (msA C S T) gs && Nat.ble (Nat.add (dsm P h nl (dtI (msA C S T) pks + off).toNat) (Nat.mul κ (Nat.add ((hdT T).1 - (hdT T).2.2).natAbs (hdT T).2.1.natAbs))) L))
theorem bd3_len : ∀ {T : List (Int × Int × Int)} {gs : List Nat}, bd3 T gs = true → T.length = gs.length
  | [], [], _ => rfl
  | [], _ :: _, h => by cases h
  | _ :: _, [], h => by cases h
  | (a, b, d) :: l, g :: gs, h => by
    have h' : (Nat.ble (a + d).natAbs g && (Nat.ble (a - d).natAbs g && (Nat.ble b.natAbs g && bd3 l gs))) = true := h
    rw [Bool.and_eq_true, Bool.and_eq_true, Bool.and_eq_true] at h'
    show l.length + 1 = gs.length + 1
    rw [bd3_len h'.2.2.2]
theorem an_blk {P h nl e κ L M K w W : Nat} {ks : List (List Int)} {gs gs3 : List Nat} {E η : Rat} (hz : anZ P h nl e κ L M K w W ks gs gs3 E η) (hg4 : gs3.length = 4) (hE : 0 ≤ E) {C S : Int} {T : List (Int × Int × Int)} (hB : anB P h nl κ L (ofI P h nl) (ks.map (pkI P)) gs gs3 C S T = true)
    {θ : Rat} (hθ : nb θ 10) (hC : nb ((C : Rat) - ((2 ^ W : Nat) : Rat) * cc θ) E) (hS : nb ((S : Rat) - ((2 ^ W : Nat) : Rat) * ss θ) E)
    {x y n : Int} (hn : n.natAbs ≤ M) {φ : Rat} (hφ : 2 * φ = θ + 2 * ((n : Rat) / 1000000000)) (hr : x * x + y * y ≤ 2000000000000) (hxy : ¬ (x % 2 = 0 ∧ y % 2 = 0)) : ¬ nb ((x : Rat) * ss φ - (y : Rat) * cc φ) η := by
  intro hδ
  unfold anZ at hz
  obtain ⟨z1, z2, z3, z4, z5, z6, z7, z8, z9, z10⟩ := hz
  unfold anB at hB
  rw [Bool.and_eq_true, Bool.and_eq_true, Bool.and_eq_true] at hB
  obtain ⟨b1, b2, b3, b4⟩ := hB
  have b4' := Nat.le_of_ble_eq_true b4
  have hU : (0 : Rat) < ((2 ^ (w + W) : Nat) : Rat) := by
    have : ((0 : Nat) : Rat) < ((2 ^ (w + W) : Nat) : Rat) := Rat.natCast_lt_natCast.mpr (Nat.two_pow_pos _)
    simpa using this
  have hV : (0 : Rat) < ((2 ^ w : Nat) : Rat) := by
    have : ((0 : Nat) : Rat) < ((2 ^ w : Nat) : Rat) := Rat.natCast_lt_natCast.mpr (Nat.two_pow_pos _)
    simpa using this
  have hUV : ((2 ^ (w + W) : Nat) : Rat) = ((2 ^ w : Nat) : Rat) * ((2 ^ W : Nat) : Rat) := by rw [Nat.pow_add, Rat.natCast_mul]
  have hm : (0 : Rat) < ((M + 1 : Nat) : Rat) := rn_pos M
  -- n by m
  have nM : nb (n : Rat) (M : Rat) := nb_mono (nb_abs n) (Rat.natCast_le_natCast.mpr hn)
  have eM : ((M + 1 : Nat) : Rat) = (M : Rat) + 1 := by simp
  have nm : nb (n : Rat) ((M + 1 : Nat) : Rat) := nb_mono nM (by rw [eM]; grind)
  obtain ⟨s, hs⟩ : ∃ s, (n : Rat) = ((M + 1 : Nat) : Rat) * s := ⟨(n : Rat) / ((M + 1 : Nat) : Rat), by
    have : ((M + 1 : Nat) : Rat) ≠ 0 := by grind
    grind⟩
  have s1 : s * s < 1 := by
    have q := nb_sq nM
    have M0 : (0 : Rat) ≤ (M : Rat) := Rat.natCast_nonneg
    rw [hs] at q
    refine Decidable.byContradiction (fun z => ?_)
    have mm := Rat.mul_pos hm hm
    have z' := Rat.mul_le_mul_of_nonneg_right (show 1 ≤ s * s by grind) (Rat.le_of_lt mm)
    rw [eM] at q z' mm
    grind
  -- the turn by n
  generalize hd : 2 * ((n : Rat) / 1000000000) = d at *
  have dc : d = (2 * ((M + 1 : Nat) : Rat) / 1000000000) * s := by
    rw [← hd, hs]; grind
  have s2 : nb s 1 := ab_le (by grind) (by grind)
  have d1 : nb d (2 * ((M + 1 : Nat) : Rat) / 1000000000) := by
    have := nb_mul (show nb (2 * ((M + 1 : Nat) : Rat) / 1000000000) (2 * ((M + 1 : Nat) : Rat) / 1000000000) from ⟨by grind, by grind⟩) s2
    rw [dc]
    exact nb_mono this (by grind)
  have d2 : nb d (1/4) := nb_mono d1 z8
  have K1 : 2 * (2 * ((M + 1 : Nat) : Rat) / 1000000000) ≤ ((K + 1 : Nat) : Rat) := by
    have : (1 : Rat) ≤ ((K + 1 : Nat) : Rat) := by
      have e : ((K + 1 : Nat) : Rat) = (K : Rat) + 1 := by simp
      have k0 : (0 : Rat) ≤ (K : Rat) := Rat.natCast_nonneg
      rw [e]; grind
    grind
  obtain ⟨f1, g1⟩ := cs_cutI d1 z6 K1
  have f2 : nb (cc d - chE (plC (lsF (cr (2 * ((M + 1 : Nat) : Rat) / 1000000000)) (K + 1))) s) (eT (2 * ((M + 1 : Nat) : Rat) / 1000000000) K) := by
    rw [plC_ok, ← cR_pl, ← dc]; exact f1
  have g2 : nb (ss d - chE (plC (lsF (ci (2 * ((M + 1 : Nat) : Rat) / 1000000000)) (K + 1))) s) (eT (2 * ((M + 1 : Nat) : Rat) / 1000000000) K) := by
    rw [plC_ok, ← cI_pl, ← dc]; exact g1
  have len : ∀ k, k ∈ ks → (k.length : Rat) ≤ (e : Rat) := fun k hk => Rat.natCast_le_natCast.mpr (Nat.le_trans (z4 k hk) z5)
  have nr := phA_nr s1 hs nm (Rat.le_of_lt hV) f2 g2 4 0 ks z7 len
  have fb := form_bd s1 z1 z2 b3 z3 z4 (Nat.le_refl _) nr
  have tl : T.length = 4 := by rw [bd3_len b2, hg4]
  have pd := phA_dt ((2 ^ (w + W) : Nat) : Rat) ((2 ^ w : Nat) : Rat) (cc d) (ss d) (n : Rat) C S T 0
  rw [tl, Rat.pow_zero] at pd
  rw [pd] at fb
  -- directions
  have φ1 : nb φ 20 := by
    obtain ⟨t1, t2⟩ := hθ
    obtain ⟨t3, t4⟩ := d2
    constructor <;> grind
  have c1 := cs_one φ1 (by decide +kernel)
  obtain ⟨a1, a2⟩ := cs_add φ1 φ1 (by decide +kernel)
  rw [show φ + φ = θ + d by grind] at a1 a2
  obtain ⟨a3, a4⟩ := cs_add hθ d2 (by decide +kernel)
  obtain ⟨bf, bg⟩ := cs_bd d2 (by decide +kernel)
  have t0 := t4_0
  have t1 := t4_1
  have T1 := fF_turn x y n (cc φ) (ss φ) T
  generalize hgc : cc φ = c at *
  generalize hgs : ss φ = s' at *
  generalize cc (θ + d) = c2 at *
  generalize ss (θ + d) = s2' at *
  generalize cc θ = Ct at *
  generalize ss θ = St at *
  generalize cc d = f at *
  generalize ss d = g at *
  generalize hde : (x : Rat) * s' - (y : Rat) * c = δ at *
  have hu : nb (c * c + s' * s' - 1) (1/1000000) := nb_mono c1 t1
  have x1 : nb (c * c - s' * s' - (Ct * f - St * g)) (2 * t4) := by
    obtain ⟨p1, p2⟩ := a1
    obtain ⟨p3, p4⟩ := a3
    constructor <;> grind
  have x2 : nb (2 * (c * s') - (St * f + Ct * g)) (2 * t4) := by
    obtain ⟨p1, p2⟩ := a2
    obtain ⟨p3, p4⟩ := a4
    constructor <;> grind
  have u0 : 0 ≤ c * c + s' * s' := by have := sq_nn c; have := sq_nn s'; grind
  have ρ1 : nb (c * c - s' * s') (1000001/1000000) := by
    have := sq_nn c; have := sq_nn s'
    obtain ⟨p1, p2⟩ := hu
    constructor <;> grind
  have ρ2 : nb (2 * (c * s')) (1000001/1000000) := by
    have := sq_nn (c - s'); have := sq_nn (c + s')
    obtain ⟨p1, p2⟩ := hu
    constructor <;> grind
  have ρ0 : nb (c * c + s' * s') (1000001/1000000) := by
    obtain ⟨p1, p2⟩ := hu
    constructor <;> grind
  -- the point
  have R : ((x : Rat) * (x : Rat) + (y : Rat) * (y : Rat)) ≤ 2000000000000 := by
    have : ((x * x + y * y : Int) : Rat) ≤ ((2000000000000 : Int) : Rat) := Rat.intCast_le_intCast.mpr hr
    rw [Rat.intCast_add, Rat.intCast_mul, Rat.intCast_mul] at this
    have e : ((2000000000000 : Int) : Rat) = 2000000000000 := by simp
    rw [e] at this
    exact this
  have R0 : 0 ≤ (x : Rat) * (x : Rat) + (y : Rat) * (y : Rat) := by have := sq_nn (x : Rat); have := sq_nn (y : Rat); grind
  have ed : ((x : Rat) * c + (y : Rat) * s') * ((x : Rat) * c + (y : Rat) * s') + δ * δ = ((x : Rat) * (x : Rat) + (y : Rat) * (y : Rat)) * (c * c + s' * s') := by rw [← hde]; grind
  have e2 : ((x : Rat) * c + (y : Rat) * s') * ((x : Rat) * c + (y : Rat) * s') ≤ 2000002000000 := by
    have k := nb_mul (show nb ((x : Rat) * (x : Rat) + (y : Rat) * (y : Rat)) 2000000000000 from ⟨by grind, R⟩) ρ0
    have := sq_nn δ
    have := k.2
    grind
  generalize (x : Rat) * c + (y : Rat) * s' = e' at *
  have eb : nb e' 1414300 := ab_le (by grind) (by grind)
  -- the three sums
  have sb0 := sB_nn (m := ((M + 1 : Nat) : Rat)) (Rat.le_of_lt hm) gs3
  have dX0 : nb (((2 ^ (w + W) : Nat) : Rat) * (c * c + s' * s') - ((2 ^ (w + W) : Nat) : Rat)) (2 * (((2 ^ (w + W) : Nat) : Rat) * t4) + 4 * (((2 ^ w : Nat) : Rat) * E)) := by
    have k := nb_mul (show nb ((2 ^ (w + W) : Nat) : Rat) ((2 ^ (w + W) : Nat) : Rat) from ⟨by grind, by grind⟩) c1
    have k2 := Rat.mul_nonneg (Rat.le_of_lt hV) hE
    have k3 := Rat.mul_nonneg (Rat.le_of_lt hU) t0
    obtain ⟨p1, p2⟩ := k
    constructor <;> grind
  have dXg : ∀ (z a b : Rat), nb (z - (a - b)) (2 * t4) → ∀ (A B : Rat), nb (((2 ^ W : Nat) : Rat) * a - A) (2 * E) → nb (((2 ^ W : Nat) : Rat) * b - B) (2 * E) → nb (((2 ^ (w + W) : Nat) : Rat) * z - ((2 ^ w : Nat) : Rat) * (A - B)) (2 * (((2 ^ (w + W) : Nat) : Rat) * t4) + 4 * (((2 ^ w : Nat) : Rat) * E)) := fun z a b hz A B hA hB => by
    have k := nb_mul (show nb ((2 ^ (w + W) : Nat) : Rat) ((2 ^ (w + W) : Nat) : Rat) from ⟨by grind, by grind⟩) hz
    have k1 := nb_mul (show nb ((2 ^ w : Nat) : Rat) ((2 ^ w : Nat) : Rat) from ⟨by grind, by grind⟩) hA
    have k2 := nb_mul (show nb ((2 ^ w : Nat) : Rat) ((2 ^ w : Nat) : Rat) from ⟨by grind, by grind⟩) hB
    rw [hUV] at k ⊢
    generalize ((2 ^ w : Nat) : Rat) = V at *
    generalize ((2 ^ W : Nat) : Rat) = WW at *
    obtain ⟨p1, p2⟩ := k
    obtain ⟨p3, p4⟩ := k1
    obtain ⟨p5, p6⟩ := k2
    constructor <;> grind
  have mC1 : nb (((2 ^ W : Nat) : Rat) * (Ct * f) - (C : Rat) * f) (2 * E) := by
    have := nb_mul hC bf
    obtain ⟨p1, p2⟩ := this
    constructor <;> grind
  have mC2 : nb (((2 ^ W : Nat) : Rat) * (Ct * g) - (C : Rat) * g) (2 * E) := by
    have := nb_mul hC bg
    obtain ⟨p1, p2⟩ := this
    constructor <;> grind
  have mS1 : nb (((2 ^ W : Nat) : Rat) * (St * f) - (S : Rat) * f) (2 * E) := by
    have := nb_mul hS bf
    obtain ⟨p1, p2⟩ := this
    constructor <;> grind
  have mS2 : nb (((2 ^ W : Nat) : Rat) * (St * g) - (S : Rat) * g) (2 * E) := by
    have := nb_mul hS bg
    obtain ⟨p1, p2⟩ := this
    constructor <;> grind
  have dX1 := dXg _ _ _ x1 _ _ mC1 mS2
  have dX2 : nb (((2 ^ (w + W) : Nat) : Rat) * (2 * (c * s')) - ((2 ^ w : Nat) : Rat) * ((S : Rat) * f + (C : Rat) * g)) (2 * (((2 ^ (w + W) : Nat) : Rat) * t4) + 4 * (((2 ^ w : Nat) : Rat) * E)) := by
    have k := dXg (2 * (c * s')) (St * f) (-(Ct * g)) (by rw [show St * f - -(Ct * g) = St * f + Ct * g by grind]; exact x2) ((S : Rat) * f) (-((C : Rat) * g)) mS1 (by
      obtain ⟨p1, p2⟩ := mC2
      constructor <;> grind)
    rw [show (S : Rat) * f - -((C : Rat) * g) = (S : Rat) * f + (C : Rat) * g by grind] at k
    exact k
  have df := gX_bd dX0 dX1 dX2 nm b2
  rw [← gX_sub, gX_ml] at df
  have q1 : nb (((2 ^ (w + W) : Nat) : Rat) * gX (c * c + s' * s') (c * c - s' * s') (2 * (c * s')) (n : Rat) T) (((dsm P h nl (dtI (msA C S T) (ks.map (pkI P)) + ofI P h nl).toNat : Nat) : Rat) + dtE gs (epA (e : Rat) ((2 ^ w : Nat) : Rat) ((M + 1 : Nat) : Rat) (eT (2 * ((M + 1 : Nat) : Rat) / 1000000000) K) 0 4) + (2 * (((2 ^ (w + W) : Nat) : Rat) * t4) + 4 * (((2 ^ w : Nat) : Rat) * E)) * sB ((M + 1 : Nat) : Rat) gs3) := by
    have k := nb_add fb df
    rw [show ∀ a b : Rat, 1 * a + (b - a) = b from fun a b => by grind] at k
    exact k
  have q3 : nb (gX (c * c + s' * s') (-(c * c - s' * s')) (-(2 * (c * s'))) (n : Rat) T) ((1000001/1000000) * sB ((M + 1 : Nat) : Rat) gs3) := gX_bd ρ0 (nb_neg ρ1) (nb_neg ρ2) nm b2
  have q2 : nb (gX 0 (2 * (c * s')) (-(c * c - s' * s')) (n : Rat) T) ((1000001/1000000) * ((Nat.add ((hdT T).1 - (hdT T).2.2).natAbs (hdT T).2.1.natAbs : Nat) : Rat) + ((M + 1 : Nat) : Rat) * ((1000001/1000000) * sB ((M + 1 : Nat) : Rat) gs3.tail)) := by
    cases T with
    | nil => cases tl
    | cons t l =>
      obtain ⟨a, b, d'⟩ := t
      cases gs3 with
      | nil => cases b2
      | cons g0 gl =>
        have b2' : (Nat.ble (a + d').natAbs g0 && (Nat.ble (a - d').natAbs g0 && (Nat.ble b.natAbs g0 && bd3 l gl))) = true := b2
        rw [Bool.and_eq_true, Bool.and_eq_true, Bool.and_eq_true] at b2'
        have r1 := gX_bd (show nb 0 (1000001/1000000) from ⟨by decide +kernel, by decide +kernel⟩) ρ2 (nb_neg ρ1) nm b2'.2.2.2
        have r2 := nb_mul nm r1
        have r3 := nb_mul (nb_abs (a - d')) ρ2
        have r4 := nb_mul (nb_abs b) (nb_neg ρ1)
        show nb (((a + d' : Int) : Rat) * 0 + ((a - d' : Int) : Rat) * (2 * (c * s')) + (b : Rat) * -(c * c - s' * s') + (n : Rat) * gX 0 (2 * (c * s')) (-(c * c - s' * s')) (n : Rat) l) ((1000001/1000000) * (((a - d').natAbs + b.natAbs : Nat) : Rat) + ((M + 1 : Nat) : Rat) * ((1000001/1000000) * sB ((M + 1 : Nat) : Rat) gl))
        rw [Rat.natCast_add]
        obtain ⟨p1, p2⟩ := r2
        obtain ⟨p3, p4⟩ := r3
        obtain ⟨p5, p6⟩ := r4
        constructor <;> grind
  have LL : ((dsm P h nl (dtI (msA C S T) (ks.map (pkI P)) + ofI P h nl).toNat : Nat) : Rat) + (κ : Rat) * ((Nat.add ((hdT T).1 - (hdT T).2.2).natAbs (hdT T).2.1.natAbs : Nat) : Rat) ≤ (L : Rat) := by
    have k : ((dsm P h nl (dtI (msA C S T) (ks.map (pkI P)) + ofI P h nl).toNat + κ * (Nat.add ((hdT T).1 - (hdT T).2.2).natAbs (hdT T).2.1.natAbs) : Nat) : Rat) ≤ (L : Rat) := Rat.natCast_le_natCast.mpr b4'
    rw [Rat.natCast_add, Rat.natCast_mul] at k
    exact k
  have F0 := an_size hU hu e2 eb hδ T1 q1 q2 q3 Rat.natCast_nonneg z9 (by
    generalize ((dsm P h nl (dtI (msA C S T) (ks.map (pkI P)) + ofI P h nl).toNat : Nat) : Rat) = DS at *
    generalize ((Nat.add ((hdT T).1 - (hdT T).2.2).natAbs (hdT T).2.1.natAbs : Nat) : Rat) = DB at *
    generalize dtE gs (epA (e : Rat) ((2 ^ w : Nat) : Rat) ((M + 1 : Nat) : Rat) (eT (2 * ((M + 1 : Nat) : Rat) / 1000000000) K) 0 4) = EE at *
    generalize (2 * (((2 ^ (w + W) : Nat) : Rat) * t4) + 4 * (((2 ^ w : Nat) : Rat) * E)) * sB ((M + 1 : Nat) : Rat) gs3 = DD at *
    generalize 2 * 1414300 * η * ((2 ^ (w + W) : Nat) : Rat) * (((M + 1 : Nat) : Rat) * ((1000001/1000000) * sB ((M + 1 : Nat) : Rat) gs3.tail)) = D1 at *
    generalize η * η * ((2 ^ (w + W) : Nat) : Rat) * ((1000001/1000000) * sB ((M + 1 : Nat) : Rat) gs3) = D2 at *
    generalize 199/100 * ((2 ^ (w + W) : Nat) : Rat) = D3 at *
    grind)
  exact hxy (fF_even b1 (int_zero F0))
