/-! no whole number's logarithm is near a whole number of billionths: a block -/
theorem ee_cutI {x α : Rat} {n : Nat} (hx : nb x α) (hn : n ≤ 800) (h2 : 2 * α ≤ ((n + 1 : Nat) : Rat)) : nb (ee x - eS x n) (eT α n) := by
  obtain ⟨d1, d2⟩ := hx
  by_cases q : 0 ≤ x
  · have k := ee_cut (x := x) (n := n) q hn (by grind)
    exact nb_mono k (eT_mono q d2 n)
  · have k := ee_cut (x := -x) (n := n) (by grind) hn (by grind)
    have m := eT_mono (show 0 ≤ -x by grind) (show -x ≤ α by grind) n
    obtain ⟨a1, a2⟩ := eS_ab (v := -x) (by grind) n (800 - n)
    rw [show n + (800 - n) = 800 by omega, show - -x = x by grind] at a1 a2
    have e1 : ee (-x) = eS (-x) 800 := rfl
    have e2 : ee x = eS x 800 := rfl
    rw [e1] at k
    rw [e2]
    obtain ⟨k1, k2⟩ := k
    constructor <;> grind
theorem ee_one {d : Rat} (h : nb d (1/650)) : 0 ≤ ee d ∧ ee d ≤ 10062/10000 := by
  have key : ∀ (b : Bool) (z : Rat), 0 ≤ z → z ≤ 1/650 → 0 ≤ eS (sg b z) 800 ∧ eS (sg b z) 800 ≤ 10062/10000 := fun b z h0 h1 => by
    have k := eS_lip (b := b) (w := 0) (d := z) (by grind) h0 (by grind)
    rw [show (0 : Rat) + z = z by grind] at k
    have e : eS (sg b 0) 800 = 1 := by
      have : sg b 0 = 0 := by unfold sg; cases b <;> decide
      rw [this]; exact eS_0 800
    rw [e] at k
    have t : (1 : Rat) / ((2 ^ 300 : Nat) : Rat) ≤ 1/1000000 := by decide +kernel
    obtain ⟨k1, k2⟩ := k
    constructor <;> grind
  obtain ⟨d1, d2⟩ := h
  by_cases q : 0 ≤ d
  · exact key false d q d2
  · have := key true (-d) (by grind) (by grind)
    rw [show sg true (-d) = d by show - -d = d; grind] at this
    exact this
def etL : Rat := 1 / ((2 ^ 147 : Nat) : Rat)
theorem etL_ok : 0 ≤ etL ∧ etL ≤ 1/1000000 ∧ 1000000 * t4 ≤ 1/1000 * etL ∧ 3 * t4 ≤ 1/1000 * etL := by decide +kernel
/-- pure numbers: the number and its inverse against the row's -/
theorem lg_near {v r A A' f g : Rat} (hv : 1 ≤ v) (hr : v * r = 1) (hA : 0 ≤ A) (hA' : 0 ≤ A') (f0 : 0 ≤ f) (g0 : 0 ≤ g) (h1 : nb (v - 1000000 * A * f) (etL * v + 1000000 * t4)) (h2 : nb (A * A' - 1) t4) (h3 : nb (f * g - 1) t4) :
    nb (v - 1000000 * A * f) (101/100 * etL * v) ∧ nb (r - A' / 1000000 * g) (101/100 * etL * r) := by
  obtain ⟨e0, e1, e2, e3⟩ := etL_ok
  have t0 := t4_0
  have t1 := t4_1
  have r0 : 0 < r := by
    refine Decidable.byContradiction (fun z => ?_)
    have := Rat.mul_nonneg (show 0 ≤ v by grind) (show 0 ≤ -r by grind)
    grind
  have ev := Rat.mul_le_mul_of_nonneg_left hv e0
  have n1 : nb (v - 1000000 * A * f) (1001/1000 * etL * v) := nb_mono h1 (by grind)
  have uu : nb (1000000 * A * f * (A' / 1000000 * g) - 1) (3 * t4) := by
    have e : 1000000 * A * f * (A' / 1000000 * g) - 1 = (A * A' - 1) * (f * g - 1) + (A * A' - 1) + (f * g - 1) := by grind
    rw [e]
    have m := nb_mul h2 h3
    have tt := Rat.mul_le_mul_of_nonneg_left t1 t0
    obtain ⟨a1, a2⟩ := m
    obtain ⟨b1, b2⟩ := h2
    obtain ⟨c1, c2⟩ := h3
    constructor <;> grind
  have u0 : 0 ≤ A' / 1000000 * g := Rat.mul_nonneg (by grind) g0
  generalize 1000000 * A * f = u at *
  generalize A' / 1000000 * g = u' at *
  have m1 := nb_mul n1 (show nb u' u' from ⟨by grind, by grind⟩)
  have vu0 : 0 ≤ v * u' := Rat.mul_nonneg (by grind) u0
  have vu : v * u' ≤ 1001/1000 := by
    obtain ⟨a1, a2⟩ := m1
    obtain ⟨b1, b2⟩ := uu
    have k := Rat.mul_le_mul_of_nonneg_right e1 vu0
    grind
  have k2 := Rat.mul_le_mul_of_nonneg_left vu e0
  have d1 : nb (v * (r - u')) (101/100 * etL) := by
    obtain ⟨a1, a2⟩ := m1
    obtain ⟨b1, b2⟩ := uu
    constructor <;> grind
  refine ⟨nb_mono n1 ?_, ?_⟩
  · have := Rat.mul_nonneg e0 (show 0 ≤ v by grind)
    grind
  · have k := nb_mul d1 (show nb r r from ⟨by grind, by grind⟩)
    rw [show v * (r - u') * r = (v * r) * (r - u') by grind, hr] at k
    rw [show 1 * (r - u') = r - u' by grind] at k
    exact k
def lgZ (P h nl e κ Ec L M K w W : Nat) (ks : List (List Int)) (gs : List Nat) (gs3 : List (Nat × Nat × Nat)) (E : Rat) (vHi wHi : Nat) : Prop :=
  0 < h ∧ P = 2 * h ∧ dtN gs (ks.map mxA) < h ∧ (∀ k, k ∈ ks → k.length ≤ nl) ∧ nl ≤ e ∧ K ≤ 800
  ∧ nrK (rlA ((2 ^ (w + W) : Nat) : Rat) ((2 ^ w : Nat) : Rat) ((M + 1 : Nat) : Rat) (plC (lsF (eT (((M + 1 : Nat) : Rat) / 1000000000)) (K + 1))) (plC (lsF (eT (-(((M + 1 : Nat) : Rat) / 1000000000))) (K + 1))) 0 5) ks = true
  ∧ ((M + 1 : Nat) : Rat) / 1000000000 ≤ 1/650
  ∧ ((2 ^ w : Nat) : Rat) * (1007/1000) * (101/100 * etL) ≤ (κ : Rat)
  ∧ dtE gs (epA (e : Rat) ((2 ^ w : Nat) : Rat) ((M + 1 : Nat) : Rat) (eT (((M + 1 : Nat) : Rat) / 1000000000) K) 0 5) + sH ((M + 1 : Nat) : Rat) 0 (2 * (((2 ^ w : Nat) : Rat) * E)) (2 * (((2 ^ w : Nat) : Rat) * E)) gs3 + ((2 ^ (w + W) : Nat) : Rat) * (((M + 1 : Nat) : Rat) * sH ((M + 1 : Nat) : Rat) 0 (101/100 * etL * (1007/1000 * (vHi : Rat) / ((2 ^ W : Nat) : Rat))) (101/100 * etL * (1007/1000 * (wHi : Rat) / ((2 ^ W : Nat) : Rat))) gs3.tail) ≤ (Ec : Rat)
  ∧ 1007/1000 * (L : Rat) ≤ 199/200 * (((2 ^ (w + W) : Nat) : Rat) * ((2 ^ W : Nat) : Rat))
theorem bh3_len : ∀ {T : List (Int × Int × Int)} {gs : List (Nat × Nat × Nat)}, bh3 T gs = true → T.length = gs.length
  | [], [], _ => rfl
  | [], _ :: _, h => by cases h
  | _ :: _, [], h => by cases h
  | (a, b, d) :: l, (ga, gb, gd) :: gs, h => by
    have h' : (Nat.ble a.natAbs ga && (Nat.ble b.natAbs gb && (Nat.ble d.natAbs gd && bh3 l gs))) = true := h
    rw [Bool.and_eq_true, Bool.and_eq_true, Bool.and_eq_true] at h'
    show l.length + 1 = gs.length + 1
    rw [bh3_len h'.2.2.2]
theorem lg_blk {P h nl e κ Ec L M K w W : Nat} {ks : List (List Int)} {gs : List Nat} {gs3 : List (Nat × Nat × Nat)} {E : Rat} {vHi wHi : Nat} (hz : lgZ P h nl e κ Ec L M K w W ks gs gs3 E vHi wHi) (hg5 : gs3.length = 5) (hE : 0 ≤ E) {vh wh : Nat} {T : List (Int × Int × Int)}
    (p1 : (hdT T).2.2 % 2 = 1) (p2 : ((hdT T).1 + (hdT T).2.1) % 2 = 0) (p3 : sD T % 2 = 1) (p4 : (sA T + sBb T) % 2 = 0) (hb3 : bh3 T gs3 = true) (hb : bdm (msL vh wh T) gs = true)
    (hc : (dsm P h nl (dtI (msL vh wh T) (ks.map (pkI P)) + ofI P h nl).toNat + κ * ((hdT T).1.natAbs * vh + (hdT T).2.2.natAbs * wh) + Ec) * vh ≤ L) (hv9 : vh ≤ vHi) (hw9 : wh ≤ wHi)
    {θ : Rat} (hθ : nb θ 14) (hV : nb ((vh : Rat) - ((2 ^ W : Nat) : Rat) * (1000000 * ee θ)) E) (hW : nb ((wh : Rat) - ((2 ^ W : Nat) : Rat) * (ee (-θ) / 1000000)) E) (hE1 : 1000000 * E ≤ (vh : Rat)) (hE2 : 1000000 * E ≤ (wh : Rat))
    {x n : Int} (hx : 1 ≤ x) (hn : n.natAbs ≤ M) {φ : Rat} (hφ : φ = θ + (n : Rat) / 1000000000) : ¬ nb ((x : Rat) - 1000000 * ee φ) (etL * (x : Rat)) := by
  intro hδ
  unfold lgZ at hz
  obtain ⟨z1, z2, z3, z4, z5, z6, z7, z8, z9, z10, z11⟩ := hz
  have hUV : ((2 ^ (w + W) : Nat) : Rat) = ((2 ^ w : Nat) : Rat) * ((2 ^ W : Nat) : Rat) := by rw [Nat.pow_add, Rat.natCast_mul]
  have p2p : ∀ k : Nat, (0 : Rat) < ((2 ^ k : Nat) : Rat) := fun k => by
    have : ((0 : Nat) : Rat) < ((2 ^ k : Nat) : Rat) := Rat.natCast_lt_natCast.mpr (Nat.two_pow_pos _)
    simpa using this
  have hU := p2p (w + W)
  have hVp := p2p w
  have hWp := p2p W
  have hm : (0 : Rat) < ((M + 1 : Nat) : Rat) := rn_pos M
  have nM : nb (n : Rat) (M : Rat) := nb_mono (nb_abs n) (Rat.natCast_le_natCast.mpr hn)
  have eM : ((M + 1 : Nat) : Rat) = (M : Rat) + 1 := by simp
  have nm : nb (n : Rat) ((M + 1 : Nat) : Rat) := nb_mono nM (by rw [eM]; grind)
  obtain ⟨s, hs⟩ : ∃ s, (n : Rat) = ((M + 1 : Nat) : Rat) * s := ⟨(n : Rat) / ((M + 1 : Nat) : Rat), by
    have : ((M + 1 : Nat) : Rat) ≠ 0 := by grind
    grind⟩
  have s1 : s * s < 1 := by
    have q := nb_sq nM
    have M0 : (0 : Rat) ≤ (M : Rat) := Rat.natCast_nonneg
    rw [hs] at q
    refine Decidable.byContradiction (fun z => ?_)
    have mm := Rat.mul_pos hm hm
    have z' := Rat.mul_le_mul_of_nonneg_right (show 1 ≤ s * s by grind) (Rat.le_of_lt mm)
    rw [eM] at q z' mm
    grind
  generalize hd : (n : Rat) / 1000000000 = d at *
  have dc : d = (((M + 1 : Nat) : Rat) / 1000000000) * s := by
    rw [← hd, hs]; grind
  have dc' : -d = (-(((M + 1 : Nat) : Rat) / 1000000000)) * s := by rw [dc]; grind
  have s2 : nb s 1 := ab_le (by grind) (by grind)
  have d1 : nb d (((M + 1 : Nat) : Rat) / 1000000000) := by
    have := nb_mul (show nb (((M + 1 : Nat) : Rat) / 1000000000) (((M + 1 : Nat) : Rat) / 1000000000) from ⟨by grind, by grind⟩) s2
    rw [dc]
    exact nb_mono this (by grind)
  have d2 : nb d (1/650) := nb_mono d1 z8
  have K1 : 2 * (((M + 1 : Nat) : Rat) / 1000000000) ≤ ((K + 1 : Nat) : Rat) := by
    have : (1 : Rat) ≤ ((K + 1 : Nat) : Rat) := by
      have e : ((K + 1 : Nat) : Rat) = (K : Rat) + 1 := by simp
      have k0 : (0 : Rat) ≤ (K : Rat) := Rat.natCast_nonneg
      rw [e]; grind
    grind
  have f1 := ee_cutI d1 z6 K1
  have g1 := ee_cutI (nb_neg d1) z6 K1
  have f2 : nb (ee d - chE (plC (lsF (eT (((M + 1 : Nat) : Rat) / 1000000000)) (K + 1))) s) (eT (((M + 1 : Nat) : Rat) / 1000000000) K) := by
    rw [plC_ok, ← eS_pl, ← dc]; exact f1
  have g2 : nb (ee (-d) - chE (plC (lsF (eT (-(((M + 1 : Nat) : Rat) / 1000000000))) (K + 1))) s) (eT (((M + 1 : Nat) : Rat) / 1000000000) K) := by
    rw [plC_ok, ← eS_pl, ← dc']; exact g1
  have len : ∀ k, k ∈ ks → (k.length : Rat) ≤ (e : Rat) := fun k hk => Rat.natCast_le_natCast.mpr (Nat.le_trans (z4 k hk) z5)
  have nr := phA_nr s1 hs nm (Rat.le_of_lt hVp) f2 g2 5 0 ks z7 len
  have fb := form_bd s1 z1 z2 hb z3 z4 (Nat.le_refl _) nr
  have tl : T.length = 5 := by rw [bh3_len hb3, hg5]
  have pd := phL_dt ((2 ^ (w + W) : Nat) : Rat) ((2 ^ w : Nat) : Rat) (ee d) (ee (-d)) (n : Rat) vh wh T 0
  rw [tl, Rat.pow_zero, show (((vh : Nat) : Int) : Rat) = (vh : Rat) from rfl, show (((wh : Nat) : Int) : Rat) = (wh : Rat) from rfl] at pd
  rw [pd] at fb
  have d3 : nb d 1 := nb_mono d2 (by decide +kernel)
  have a1 := ee_add hθ d3 (by decide +kernel)
  rw [← hφ] at a1
  have a2 := ee_add hθ (nb_neg hθ) (by decide +kernel)
  rw [show θ + -θ = 0 by grind, ee_0] at a2
  have a3 := ee_add d3 (nb_neg d3) (by decide +kernel)
  rw [show d + -d = 0 by grind, ee_0] at a3
  obtain ⟨f0, fM⟩ := ee_one d2
  obtain ⟨g0, gM⟩ := ee_one (nb_neg d2)
  have A0 := Rat.le_of_lt (ee_pos hθ (by decide +kernel))
  have B0 := Rat.le_of_lt (ee_pos (nb_neg hθ) (by decide +kernel))
  have xr : (1 : Rat) ≤ (x : Rat) := by
    have : ((1 : Int) : Rat) ≤ (x : Rat) := Rat.intCast_le_intCast.mpr hx
    have e : ((1 : Int) : Rat) = 1 := rfl
    rw [e] at this; exact this
  obtain ⟨r, hr⟩ : ∃ r, (x : Rat) * r = 1 := ⟨1 / (x : Rat), by
    have : (x : Rat) ≠ 0 := by grind
    grind⟩
  have hF := fF_inv x n r hr T
  have ne : fF x 1 n T ≠ 0 := fF_one1 x n T p1 p2 p3 p4
  generalize ee φ = eφ at *
  generalize ee θ = A at *
  generalize ee (-θ) = A' at *
  generalize ee d = f at *
  generalize ee (-d) = g at *
  have h1 : nb ((x : Rat) - 1000000 * A * f) (etL * (x : Rat) + 1000000 * t4) := by
    obtain ⟨q1, q2⟩ := a1
    obtain ⟨q3, q4⟩ := hδ
    constructor <;> grind
  obtain ⟨k1, k2⟩ := lg_near xr hr A0 B0 f0 g0 h1 a2 a3
  obtain ⟨e0, e1, e2, e3⟩ := etL_ok
  have r0 : 0 < r := by
    refine Decidable.byContradiction (fun z => ?_)
    have := Rat.mul_nonneg (show 0 ≤ (x : Rat) by grind) (show 0 ≤ -r by grind)
    grind
  have vh0 : (0 : Rat) ≤ (vh : Rat) := Rat.natCast_nonneg
  have wh0 : (0 : Rat) ≤ (wh : Rat) := Rat.natCast_nonneg
  -- the number by the row's
  have cap : ∀ (y Y t q X : Rat), 0 ≤ y → 0 ≤ Y → 0 ≤ q → q ≤ 10062/10000 → nb (y - Y * q) (101/100 * etL * y) → nb (X - ((2 ^ W : Nat) : Rat) * Y) E → 1000000 * E ≤ X → y * ((2 ^ W : Nat) : Rat) ≤ 1007/1000 * X := fun y Y t q X y0 Y0 q0 qM hy hX hEX => by
    have m1 := Rat.mul_le_mul_of_nonneg_right e1 y0
    have m2 := Rat.mul_le_mul_of_nonneg_left qM Y0
    obtain ⟨b1, b2⟩ := hy
    obtain ⟨c1, c2⟩ := hX
    have y9 : y ≤ 10063/10000 * Y := by grind
    have m3 := Rat.mul_le_mul_of_nonneg_right y9 (Rat.le_of_lt hWp)
    grind
  have cx : (x : Rat) * ((2 ^ W : Nat) : Rat) ≤ 1007/1000 * (vh : Rat) := cap (x : Rat) (1000000 * A) 0 f (vh : Rat) (by grind) (by grind) f0 fM k1 hV hE1
  have cr : r * ((2 ^ W : Nat) : Rat) ≤ 1007/1000 * (wh : Rat) := cap r (A' / 1000000) 0 g (wh : Rat) (by grind) (by grind) g0 gM k2 hW hE2
  have vH : (vh : Rat) ≤ (vHi : Rat) := Rat.natCast_le_natCast.mpr hv9
  have wH : (wh : Rat) ≤ (wHi : Rat) := Rat.natCast_le_natCast.mpr hw9
  have divW : ∀ y X : Rat, y * ((2 ^ W : Nat) : Rat) ≤ 1007/1000 * X → y ≤ 1007/1000 * X / ((2 ^ W : Nat) : Rat) := fun y X hyX => by
    have hne : ((2 ^ W : Nat) : Rat) ≠ 0 := by grind
    have e9 : ((2 ^ W : Nat) : Rat) * (1007/1000 * X / ((2 ^ W : Nat) : Rat)) = 1007/1000 * X := by grind
    refine mul_cancel_le hWp ?_
    rw [e9]; grind
  have xM := divW (x : Rat) (vHi : Rat) (by grind)
  have rM := divW r (wHi : Rat) (by grind)
  have et1 : (0 : Rat) ≤ 101/100 * etL := by grind
  have αM : nb ((x : Rat) - 1000000 * A * f) (101/100 * etL * (1007/1000 * (vHi : Rat) / ((2 ^ W : Nat) : Rat))) := nb_mono k1 (Rat.mul_le_mul_of_nonneg_left xM et1)
  have βM : nb (r - A' / 1000000 * g) (101/100 * etL * (1007/1000 * (wHi : Rat) / ((2 ^ W : Nat) : Rat))) := nb_mono k2 (Rat.mul_le_mul_of_nonneg_left rM et1)
  -- the two sums
  have hsum : hX 1 (x : Rat) r (n : Rat) T = hX 1 (1000000 * A * f) (A' / 1000000 * g) (n : Rat) T + hX 0 ((x : Rat) - 1000000 * A * f) (r - A' / 1000000 * g) (n : Rat) T := by
    have := hX_sub 1 (x : Rat) r 1 (1000000 * A * f) (A' / 1000000 * g) (n : Rat) T
    rw [show (1 : Rat) - 1 = 0 by grind] at this
    grind
  rw [hsum] at hF
  have dX : ∀ (X Y q : Rat), 0 ≤ q → q ≤ 10062/10000 → nb (X - ((2 ^ W : Nat) : Rat) * Y) E → nb (((2 ^ (w + W) : Nat) : Rat) * (Y * q) - ((2 ^ w : Nat) : Rat) * (X * q)) (2 * (((2 ^ w : Nat) : Rat) * E)) := fun X Y q q0 qM hX => by
    have m := nb_mul (nb_mul (show nb ((2 ^ w : Nat) : Rat) ((2 ^ w : Nat) : Rat) from ⟨by grind, by grind⟩) hX) (show nb q 2 from ⟨by grind, by grind⟩)
    rw [hUV]
    generalize ((2 ^ w : Nat) : Rat) = V9 at *
    generalize ((2 ^ W : Nat) : Rat) = W9 at *
    obtain ⟨b1, b2⟩ := m
    constructor <;> grind
  have y1 := dX (vh : Rat) (1000000 * A) f f0 fM hV
  have y2 := dX (wh : Rat) (A' / 1000000) g g0 gM hW
  have df := hX_bd (show nb (((2 ^ (w + W) : Nat) : Rat) * 1 - ((2 ^ (w + W) : Nat) : Rat)) 0 from ⟨by grind, by grind⟩) y1 y2 nm hb3
  rw [← hX_sub, hX_ml] at df
  have q1 : nb (((2 ^ (w + W) : Nat) : Rat) * hX 1 (1000000 * A * f) (A' / 1000000 * g) (n : Rat) T) (((dsm P h nl (dtI (msL vh wh T) (ks.map (pkI P)) + ofI P h nl).toNat : Nat) : Rat) + dtE gs (epA (e : Rat) ((2 ^ w : Nat) : Rat) ((M + 1 : Nat) : Rat) (eT (((M + 1 : Nat) : Rat) / 1000000000) K) 0 5) + sH ((M + 1 : Nat) : Rat) 0 (2 * (((2 ^ w : Nat) : Rat) * E)) (2 * (((2 ^ w : Nat) : Rat) * E)) gs3) := by
    have k := nb_add fb df
    rw [show ∀ a b : Rat, 1 * a + (b - a) = b from fun a b => by grind] at k
    exact k
  have q2 : nb (((2 ^ (w + W) : Nat) : Rat) * hX 0 ((x : Rat) - 1000000 * A * f) (r - A' / 1000000 * g) (n : Rat) T) ((κ : Rat) * (((hdT T).1.natAbs : Rat) * (vh : Rat) + ((hdT T).2.2.natAbs : Rat) * (wh : Rat)) + ((2 ^ (w + W) : Nat) : Rat) * (((M + 1 : Nat) : Rat) * sH ((M + 1 : Nat) : Rat) 0 (101/100 * etL * (1007/1000 * (vHi : Rat) / ((2 ^ W : Nat) : Rat))) (101/100 * etL * (1007/1000 * (wHi : Rat) / ((2 ^ W : Nat) : Rat))) gs3.tail)) := by
    cases T with
    | nil => cases tl
    | cons t l =>
      obtain ⟨a, b, d'⟩ := t
      cases gs3 with
      | nil => cases hb3
      | cons g3 gl =>
        obtain ⟨ga, gb, gd⟩ := g3
        have b2' : (Nat.ble a.natAbs ga && (Nat.ble b.natAbs gb && (Nat.ble d'.natAbs gd && bh3 l gl))) = true := hb3
        rw [Bool.and_eq_true, Bool.and_eq_true, Bool.and_eq_true] at b2'
        have r1 := hX_bd (show nb 0 0 from ⟨by grind, by grind⟩) αM βM nm b2'.2.2.2
        have r2 := nb_mul nm r1
        have r3 := nb_mul (nb_abs a) k1
        have r4 := nb_mul (nb_abs d') k2
        show nb (((2 ^ (w + W) : Nat) : Rat) * ((b : Rat) * 0 + (a : Rat) * ((x : Rat) - 1000000 * A * f) + (d' : Rat) * (r - A' / 1000000 * g) + (n : Rat) * hX 0 ((x : Rat) - 1000000 * A * f) (r - A' / 1000000 * g) (n : Rat) l)) ((κ : Rat) * ((a.natAbs : Rat) * (vh : Rat) + (d'.natAbs : Rat) * (wh : Rat)) + ((2 ^ (w + W) : Nat) : Rat) * (((M + 1 : Nat) : Rat) * sH ((M + 1 : Nat) : Rat) 0 (101/100 * etL * (1007/1000 * (vHi : Rat) / ((2 ^ W : Nat) : Rat))) (101/100 * etL * (1007/1000 * (wHi : Rat) / ((2 ^ W : Nat) : Rat))) gl))
        generalize ((M + 1 : Nat) : Rat) * sH ((M + 1 : Nat) : Rat) 0 (101/100 * etL * (1007/1000 * (vHi : Rat) / ((2 ^ W : Nat) : Rat))) (101/100 * etL * (1007/1000 * (wHi : Rat) / ((2 ^ W : Nat) : Rat))) gl = RR at *
        generalize (n : Rat) * hX 0 ((x : Rat) - 1000000 * A * f) (r - A' / 1000000 * g) (n : Rat) l = HH at *
        have na : (0 : Rat) ≤ (a.natAbs : Rat) := Rat.natCast_nonneg
        have nd : (0 : Rat) ≤ (d'.natAbs : Rat) := Rat.natCast_nonneg
        have t1 := Rat.mul_le_mul_of_nonneg_left cx na
        have t2 := Rat.mul_le_mul_of_nonneg_left cr nd
        have hA9 := Rat.mul_nonneg na vh0
        have hD9 := Rat.mul_nonneg nd wh0
        have kk := Rat.mul_le_mul_of_nonneg_right z9 (show 0 ≤ (a.natAbs : Rat) * (vh : Rat) + (d'.natAbs : Rat) * (wh : Rat) by grind)
        have et2 := Rat.mul_nonneg (Rat.le_of_lt hVp) et1
        have t3 := Rat.mul_le_mul_of_nonneg_left (show (a.natAbs : Rat) * ((x : Rat) * ((2 ^ W : Nat) : Rat)) + (d'.natAbs : Rat) * (r * ((2 ^ W : Nat) : Rat)) ≤ (a.natAbs : Rat) * (1007/1000 * (vh : Rat)) + (d'.natAbs : Rat) * (1007/1000 * (wh : Rat)) by grind) et2
        have mU := nb_mul (show nb ((2 ^ (w + W) : Nat) : Rat) ((2 ^ (w + W) : Nat) : Rat) from ⟨by grind, by grind⟩) (nb_add (nb_add r3 r4) r2)
        rw [show (b : Rat) * 0 + (a : Rat) * ((x : Rat) - 1000000 * A * f) + (d' : Rat) * (r - A' / 1000000 * g) + HH = (a : Rat) * ((x : Rat) - 1000000 * A * f) + (d' : Rat) * (r - A' / 1000000 * g) + HH by grind]
        refine nb_mono mU ?_
        rw [hUV] at *
        generalize ((2 ^ w : Nat) : Rat) = V9 at *
        generalize ((2 ^ W : Nat) : Rat) = W9 at *
        generalize (a.natAbs : Rat) = aa at *
        generalize (d'.natAbs : Rat) = dd at *
        generalize (vh : Rat) = vv at *
        generalize (wh : Rat) = ww at *
        generalize (x : Rat) = xx at *
        clear mU r1 r2 r3 r4 hF df q1 fb nr hsum
        grind
  have LL : ((((dsm P h nl (dtI (msL vh wh T) (ks.map (pkI P)) + ofI P h nl).toNat : Nat) : Rat) + dtE gs (epA (e : Rat) ((2 ^ w : Nat) : Rat) ((M + 1 : Nat) : Rat) (eT (((M + 1 : Nat) : Rat) / 1000000000) K) 0 5) + sH ((M + 1 : Nat) : Rat) 0 (2 * (((2 ^ w : Nat) : Rat) * E)) (2 * (((2 ^ w : Nat) : Rat) * E)) gs3) + ((κ : Rat) * (((hdT T).1.natAbs : Rat) * (vh : Rat) + ((hdT T).2.2.natAbs : Rat) * (wh : Rat)) + ((2 ^ (w + W) : Nat) : Rat) * (((M + 1 : Nat) : Rat) * sH ((M + 1 : Nat) : Rat) 0 (101/100 * etL * (1007/1000 * (vHi : Rat) / ((2 ^ W : Nat) : Rat))) (101/100 * etL * (1007/1000 * (wHi : Rat) / ((2 ^ W : Nat) : Rat))) gs3.tail))) * (vh : Rat) ≤ (L : Rat) := by
    have k : (((dsm P h nl (dtI (msL vh wh T) (ks.map (pkI P)) + ofI P h nl).toNat + κ * ((hdT T).1.natAbs * vh + (hdT T).2.2.natAbs * wh) + Ec) * vh : Nat) : Rat) ≤ (L : Rat) := Rat.natCast_le_natCast.mpr hc
    rw [Rat.natCast_mul, Rat.natCast_add, Rat.natCast_add, Rat.natCast_mul, Rat.natCast_add, Rat.natCast_mul, Rat.natCast_mul] at k
    generalize ((dsm P h nl (dtI (msL vh wh T) (ks.map (pkI P)) + ofI P h nl).toNat : Nat) : Rat) = DS at *
    generalize (κ : Rat) * (((hdT T).1.natAbs : Rat) * (vh : Rat) + ((hdT T).2.2.natAbs : Rat) * (wh : Rat)) = KK at *
    generalize dtE gs (epA (e : Rat) ((2 ^ w : Nat) : Rat) ((M + 1 : Nat) : Rat) (eT (((M + 1 : Nat) : Rat) / 1000000000) K) 0 5) = E1 at *
    generalize sH ((M + 1 : Nat) : Rat) 0 (2 * (((2 ^ w : Nat) : Rat) * E)) (2 * (((2 ^ w : Nat) : Rat) * E)) gs3 = E2 at *
    generalize ((2 ^ (w + W) : Nat) : Rat) * (((M + 1 : Nat) : Rat) * sH ((M + 1 : Nat) : Rat) 0 (101/100 * etL * (1007/1000 * (vHi : Rat) / ((2 ^ W : Nat) : Rat))) (101/100 * etL * (1007/1000 * (wHi : Rat) / ((2 ^ W : Nat) : Rat))) gs3.tail) = E3 at *
    have m := Rat.mul_le_mul_of_nonneg_right (show DS + E1 + E2 + (KK + E3) ≤ DS + KK + (Ec : Rat) by grind) vh0
    grind
  exact ne (int_zero (lg_size hU hWp hF q1 q2 (by grind) cx (by decide +kernel) LL z11))
