/-! rows of blocks of logarithms -/
def gw (a G v : Nat) : Nat → Nat
  | 0 => v
  | i + 1 => gw a G v i * G / a
theorem gw_suc {a G : Nat} : ∀ i v, gw a G (v * G / a) i = gw a G v (i + 1)
  | 0, _ => rfl
  | i + 1, v => by
    have ih := gw_suc (a := a) (G := G) i v
    show gw a G (v * G / a) i * G / a = gw a G v (i + 1) * G / a
    rw [ih]
noncomputable def lRw (f : Nat → Nat → Nat → Bool) (a G H : Nat) (l : List Nat) : Nat → Nat → Bool :=
  List.rec (motive := fun _ => Nat → Nat → Bool) (fun _ _ => true) (fun d _ ih v w => cond (f v w d) (ih (Nat.div (Nat.mul v G) a) (Nat.div (Nat.mul w H) a)) false) l
theorem lRw_ok {f : Nat → Nat → Nat → Bool} {a G H : Nat} : ∀ (l : List Nat) (v w : Nat), lRw f a G H l v w = true → ∀ i, i < l.length → ∃ d, f (gw a G v i) (gw a H w i) d = true
  | [], _, _, _, i, hi => absurd hi (Nat.not_lt_zero _)
  | d :: l, v, w, h, i, hi => by
    have h' : cond (f v w d) (lRw f a G H l (v * G / a) (w * H / a)) false = true := h
    cases hf : f v w d with
    | false => rw [hf] at h'; cases h'
    | true =>
      rw [hf] at h'
      cases i with
      | zero => exact ⟨d, hf⟩
      | succ i =>
        have r := lRw_ok l _ _ h' i (by have : i + 1 < l.length + 1 := hi; omega)
        rw [gw_suc, gw_suc] at r
        exact r
/-- the row's heads: e to a growing or falling number -/
theorem gw_err {a G v m : Nat} {Y θ Δ : Rat} {g : Nat → Rat} (ha : 0 < a) (hY : 0 ≤ Y) (hYt : Y * t4 ≤ 1/4) (hm5 : m ≤ 100000) (hth : ∀ i, i ≤ m → nb (θ + (i : Rat) * Δ) 99) (hΔ : nb Δ 1) (hg1 : ∀ i, 1 ≤ g i) (hg : ∀ i, i < m → g i * ee Δ ≤ g (i + 1) + 1/1000000000)
    (hG : nb ((G : Rat) - (a : Rat) * ee Δ) 1) (ha9 : ∀ i, i < m → Y * ee (θ + (i : Rat) * Δ) + 4 * ((i : Rat) + 1) * g i ≤ (a : Rat)) (h0 : nb ((v : Rat) - Y * ee θ) 4) :
    ∀ i, i ≤ m → nb ((gw a G v i : Rat) - Y * ee (θ + (i : Rat) * Δ)) (4 * ((i : Rat) + 1) * g i)
  | 0, _ => by
    have e0 : ((0 : Nat) : Rat) = 0 := rfl
    have k := hg1 0
    rw [e0, show θ + 0 * Δ = θ by grind]
    show nb ((v : Rat) - Y * ee θ) _
    exact nb_mono h0 (by grind)
  | i + 1, hi => by
    have ih := gw_err ha hY hYt hm5 hth hΔ hg1 hg hG ha9 h0 i (by omega)
    have har : (0 : Rat) < (a : Rat) := by
      have : ((0 : Nat) : Rat) < (a : Rat) := Rat.natCast_lt_natCast.mpr ha
      simpa using this
    have ei : ((i + 1 : Nat) : Rat) = (i : Rat) + 1 := by simp
    have i0 : (0 : Rat) ≤ (i : Rat) := Rat.natCast_nonneg
    have i5 : (i : Rat) ≤ 100000 := by
      have : (i : Rat) ≤ ((100000 : Nat) : Rat) := Rat.natCast_le_natCast.mpr (by omega)
      simpa using this
    have k1 := ee_add (hth i (by omega)) hΔ (by decide +kernel)
    rw [show θ + (i : Rat) * Δ + Δ = θ + ((i : Rat) + 1) * Δ by grind] at k1
    have E0 := Rat.le_of_lt (ee_pos hΔ (by decide +kernel))
    have a9 := ha9 i (by omega)
    have gi := hg i (by omega)
    have g1 := hg1 i
    have g2 := hg1 (i + 1)
    rw [ei]
    show nb (((gw a G v i * G / a : Nat) : Rat) - Y * ee (θ + ((i : Rat) + 1) * Δ)) _
    obtain ⟨c1, c2⟩ := nd_le (gw a G v i * G) a ha
    rw [Rat.natCast_mul] at c1 c2
    have x0 : (0 : Rat) ≤ (gw a G v i : Rat) := Rat.natCast_nonneg
    generalize ((gw a G v i * G / a : Nat) : Rat) = x' at *
    generalize (gw a G v i : Rat) = x at *
    generalize (G : Rat) = G' at *
    generalize (a : Rat) = a' at *
    generalize ee (θ + ((i : Rat) + 1) * Δ) = y' at *
    generalize ee (θ + (i : Rat) * Δ) = y at *
    generalize ee Δ = E at *
    generalize g (i + 1) = gn at *
    generalize g i = gg' at *
    -- x' is x E to 2
    have xa : x ≤ a' := by
      have := ih.2
      grind
    have m1 := nb_mul (show nb x a' from ⟨by grind, xa⟩) hG
    have d1 : nb (x' - x * E) 2 := by
      obtain ⟨q1, q2⟩ := m1
      constructor
      · exact mul_cancel_le har (by grind)
      · exact mul_cancel_le har (by grind)
    have m2 := nb_mul ih (show nb E E from ⟨by grind, by grind⟩)
    have m3 := nb_mul (show nb Y Y from ⟨by grind, by grind⟩) k1
    have m4 := Rat.mul_le_mul_of_nonneg_left gi (show 0 ≤ 4 * ((i : Rat) + 1) by grind)
    obtain ⟨q1, q2⟩ := d1
    obtain ⟨q3, q4⟩ := m2
    obtain ⟨q5, q6⟩ := m3
    constructor <;> grind
theorem ee_15 : eS 15 100 + eT 15 100 ≤ 3300000 := by decide +kernel
theorem ee_bd {x : Rat} (h : nb x 15) : ee x ≤ 3300000 := by
  obtain ⟨h1, h2⟩ := h
  by_cases q : 0 ≤ x
  · have k := ee_cut (x := x) (n := 100) q (by decide) (by
      have : ((100 + 1 : Nat) : Rat) = 101 := by simp
      rw [this]; grind)
    have m1 := eT_mono q h2 100
    have m2 : eS x 100 ≤ eS 15 100 := by
      rw [eS_sm, eS_sm]
      exact sm_le _ (fun i _ => eT_mono q h2 i)
    have := ee_15
    have := k.2
    grind
  · have k := ee_np (x := x) (α := 15) (by grind) ⟨h1, h2⟩ (by decide +kernel)
    have := t4_1
    grind
def lF (f : Nat → Nat → Nat → Bool) (a0 a1 b0 b1 b2 b3 c0 c1 c2 c3 c4 ea0 ea1 ec0 ec1 ec2 ec3 ec4 u0 v0 z0 u1 v1 z1 u2 z2 u3 z3 z4 P h nl Q k0 κ Ec L vH wH : Nat) : Prop :=
  ∀ v w d, f v w d = true → ∃ A0 A1 B0 B1 B2 B3 C0 C1 C2 C3 C4 : Nat, (A0 < 2 * a0 ∧ A1 < 2 * a1) ∧ (B0 < 2 * b0 ∧ B1 < 2 * b1 ∧ B2 < 2 * b2 ∧ B3 < 2 * b3) ∧ (C0 < 2 * c0 ∧ C1 < 2 * c1 ∧ C2 < 2 * c2 ∧ C3 < 2 * c3 ∧ C4 < 2 * c4) ∧ lB2 a0 a1 b0 b1 b2 b3 c0 c1 c2 c3 c4 ea0 ea1 ec0 ec1 ec2 ec3 ec4 u0 v0 z0 u1 v1 z1 u2 z2 u3 z3 z4 P h nl Q k0 κ Ec L vH wH v w A0 A1 B0 B1 B2 B3 C0 C1 C2 C3 C4 = true
def lgR (lo hi : Int) : Prop := ∀ N x : Int, lo ≤ N → N < hi → 1 ≤ x → ¬ nb ((x : Rat) - 1000000 * ee ((N : Rat) / 1000000000)) (etL * (x : Rat))
theorem lgR_cat {lo mi hi : Int} (h1 : lgR lo mi) (h2 : lgR mi hi) : lgR lo hi := fun N x a b => by
  by_cases q : N < mi
  · exact h1 N x a q
  · exact h2 N x (by omega) b
theorem ee_tE {θ A e t : Rat} {n : Nat} {α X : Rat} (h0 : nb θ α) (hn : n ≤ 800) (h2 : 2 * α ≤ ((n + 1 : Nat) : Rat)) (hA : 0 ≤ A) (hX : nb (X - A * eS θ n) e) (ht : A * eT α n ≤ t) : nb (X - A * ee θ) (e + t) := by
  have k1 := ee_cutI h0 hn h2
  generalize ee θ = c at *
  generalize eS θ n = c' at *
  generalize eT α n = τ at *
  have m1 := nb_mul (show nb A A from ⟨by grind, by grind⟩) k1
  obtain ⟨a1, a2⟩ := m1
  obtain ⟨c1, c2⟩ := hX
  constructor <;> grind
theorem lg_rng {a0 a1 b0 b1 b2 b3 c0 c1 c2 c3 c4 ea0 ea1 ec0 ec1 ec2 ec3 ec4 u0 v0 z0 u1 v1 z1 u2 y2 z2 u3 y3 z3 u4 y4 z4 P h nl Q k0 κ Ec L vH wH e M K wv W a G H : Nat} {ks : List (List Int)} {E : Rat}
    (hz : nZL a0 a1 b0 b1 b2 b3 c0 c1 c2 c3 c4 ea0 ea1 ec0 ec1 ec2 ec3 ec4 u0 v0 z0 u1 v1 z1 u2 y2 z2 u3 y3 z3 u4 y4 z4 P h nl Q k0 vH wH ks)
    (lz : lgZ P h nl e κ Ec L M K wv W ks (lgsL a0 a1 b0 b1 b2 b3 c0 c1 c2 c3 c4 vH wH) (lg3L a0 a1 b0 b1 b2 b3 c0 c1 c2 c3 c4) E vH wH)
    (ha : 0 < a) (hWa : ((2 ^ W : Nat) : Rat) * 1000000 * 3400000 ≤ (a : Rat)) (hWt : ((2 ^ W : Nat) : Rat) * 1000000 * t4 ≤ 1/4) (hW9 : 1000000 * 1000000 * 1000000 * 1000000 * E ≤ ((2 ^ W : Nat) : Rat)) (hE5 : E ≤ 1000000000000)
    (hGH : nb ((G : Rat) - (a : Rat) * ee (((2 * M + 1 : Nat) : Rat) / 1000000000)) 1 ∧ nb ((H : Rat) - (a : Rat) * ee (-(((2 * M + 1 : Nat) : Rat) / 1000000000))) 1) (hΔ1 : ((2 * M + 1 : Nat) : Rat) / 1000000000 ≤ 1)
    {f : Nat → Nat → Nat → Bool} (hf9 : lF f a0 a1 b0 b1 b2 b3 c0 c1 c2 c3 c4 ea0 ea1 ec0 ec1 ec2 ec3 ec4 u0 v0 z0 u1 v1 z1 u2 z2 u3 z3 z4 P h nl Q k0 κ Ec L vH wH)
    {l : List Nat} {v w m : Nat} {N0 lo hi : Int} (hl : l.length = m) (hm5 : m ≤ 100000) (hmΔ : (m : Rat) * (((2 * M + 1 : Nat) : Rat) / 1000000000) ≤ 5/2) (hmE : 4 * (m : Rat) * 13 ≤ E)
    (hr1 : -(13816/1000) ≤ (N0 : Rat) / 1000000000) (hr2 : (N0 : Rat) / 1000000000 + (m : Rat) * (((2 * M + 1 : Nat) : Rat) / 1000000000) ≤ 13817/1000)
    (h0 : nb ((v : Rat) - ((2 ^ W : Nat) : Rat) * 1000000 * ee ((N0 : Rat) / 1000000000)) 4) (h1 : nb ((w : Rat) - ((2 ^ W : Nat) : Rat) / 1000000 * ee (-((N0 : Rat) / 1000000000))) 4)
    (hL : lRw f a G H l v w = true) (hlo : lo + M = N0) (hhi : hi ≤ lo + m * (2 * M + 1)) : lgR lo hi := fun N x hN1 hN2 hx => by
  subst hl
  generalize hD : ((2 * M + 1 : Nat) : Rat) / 1000000000 = Δ at *
  have D0 : 0 ≤ Δ := by
    have : (0 : Rat) ≤ ((2 * M + 1 : Nat) : Rat) := Rat.natCast_nonneg
    rw [← hD]; grind
  have hWp : (0 : Rat) < ((2 ^ W : Nat) : Rat) := by
    have : ((0 : Nat) : Rat) < ((2 ^ W : Nat) : Rat) := Rat.natCast_lt_natCast.mpr (Nat.two_pow_pos _)
    simpa using this
  have bl : ∀ i : Nat, i ≤ l.length → 0 ≤ (i : Rat) * Δ ∧ (i : Rat) * Δ ≤ (l.length : Rat) * Δ ∧ (i : Rat) * Δ ≤ 5/2 := fun i hi => by
    have i0 : (0 : Rat) ≤ (i : Rat) := Rat.natCast_nonneg
    have i1 : (i : Rat) ≤ (l.length : Rat) := Rat.natCast_le_natCast.mpr hi
    have m1 := Rat.mul_nonneg i0 D0
    have m2 := Rat.mul_le_mul_of_nonneg_right i1 D0
    exact ⟨m1, m2, by grind⟩
  generalize hT : (N0 : Rat) / 1000000000 = θ at *
  have thb : ∀ i : Nat, i ≤ l.length → nb (θ + (i : Rat) * Δ) (13817/1000) := fun i hi => by
    obtain ⟨q1, q2, q3⟩ := bl i hi
    constructor <;> grind
  have ein : ∀ i : Nat, i ≤ l.length → 1 ≤ ee ((i : Rat) * Δ) ∧ ee ((i : Rat) * Δ) ≤ 13 := fun i hi => by
    obtain ⟨q1, q2, q3⟩ := bl i hi
    have k := ee_nn q1
    have k2 := ee_cut (x := (i : Rat) * Δ) (n := 40) q1 (by decide) (by
      have : ((40 + 1 : Nat) : Rat) = 41 := by simp
      rw [this]; grind)
    have m1 := eT_mono q1 q3 40
    have m2 : eS ((i : Rat) * Δ) 40 ≤ eS (5/2) 40 := by
      rw [eS_sm, eS_sm]
      exact sm_le _ (fun j _ => eT_mono q1 q3 j)
    have n1 : eS (5/2) 40 + eT (5/2) 40 ≤ 13 := by decide +kernel
    have := k2.2
    constructor <;> grind
  have hΔb : nb Δ 1 := ⟨by grind, hΔ1⟩
  have mE5 : (l.length : Rat) ≤ 100000 := by
    have : (l.length : Rat) ≤ ((100000 : Nat) : Rat) := Rat.natCast_le_natCast.mpr hm5
    simpa using this
  have t0 := t4_0
  have t1 := t4_1
  -- growing heads
  have gV := gw_err (a := a) (G := G) (v := v) (m := l.length) (Y := ((2 ^ W : Nat) : Rat) * 1000000) (θ := θ) (Δ := Δ) (g := fun i => if i ≤ l.length then ee ((i : Rat) * Δ) else 1) ha (by grind) hWt hm5 (fun i hi => nb_mono (thb i hi) (by decide +kernel)) hΔb (fun i => by
      show 1 ≤ if i ≤ l.length then ee ((i : Rat) * Δ) else 1
      by_cases q : i ≤ l.length
      · rw [if_pos q]; exact (ein i q).1
      · rw [if_neg q]; grind) (fun i hi => by
      show (if i ≤ l.length then ee ((i : Rat) * Δ) else 1) * ee Δ ≤ (if i + 1 ≤ l.length then ee (((i + 1 : Nat) : Rat) * Δ) else 1) + 1/1000000000
      rw [if_pos (by omega), if_pos (by omega)]
      have ei : ((i + 1 : Nat) : Rat) = (i : Rat) + 1 := by simp
      obtain ⟨q1, q2, q3⟩ := bl i (by omega)
      have k := ee_add (u := (i : Rat) * Δ) (v := Δ) (α := 5/2) (β := 1) ⟨by grind, q3⟩ hΔb (by decide +kernel)
      rw [ei, show ((i : Rat) + 1) * Δ = (i : Rat) * Δ + Δ by grind]
      have t9 : t4 ≤ 1/1000000000 := by decide +kernel
      have := k.2
      grind) hGH.1 (fun i hi => by
      show ((2 ^ W : Nat) : Rat) * 1000000 * ee (θ + (i : Rat) * Δ) + 4 * ((i : Rat) + 1) * (if i ≤ l.length then ee ((i : Rat) * Δ) else 1) ≤ (a : Rat)
      rw [if_pos (by omega)]
      have b1 := ee_bd (nb_mono (thb i (by omega)) (show (13817/1000 : Rat) ≤ 15 by decide +kernel))
      have b2 := (ein i (by omega)).2
      have b3 := (ein i (by omega)).1
      have i0 : (0 : Rat) ≤ (i : Rat) := Rat.natCast_nonneg
      have i1 : (i : Rat) + 1 ≤ (l.length : Rat) := by
        have : ((i + 1 : Nat) : Rat) ≤ (l.length : Rat) := Rat.natCast_le_natCast.mpr hi
        have ei : ((i + 1 : Nat) : Rat) = (i : Rat) + 1 := by simp
        rw [ei] at this; exact this
      have m1 := Rat.mul_le_mul_of_nonneg_left b1 (show 0 ≤ ((2 ^ W : Nat) : Rat) * 1000000 by grind)
      have m2 := Rat.mul_le_mul_of_nonneg_left b2 (show 0 ≤ 4 * ((i : Rat) + 1) by grind)
      grind) h0
  -- falling heads
  have gW := gw_err (a := a) (G := H) (v := w) (m := l.length) (Y := ((2 ^ W : Nat) : Rat) / 1000000) (θ := -θ) (Δ := -Δ) (g := fun _ => 1) ha (by grind) (by
      have m1 := Rat.mul_nonneg (Rat.le_of_lt hWp) t0
      grind) hm5 (fun i hi => by
      have := nb_neg (thb i hi)
      rw [show -(θ + (i : Rat) * Δ) = -θ + (i : Rat) * -Δ by grind] at this
      exact nb_mono this (by decide +kernel)) (nb_neg hΔb) (fun i => by show (1 : Rat) ≤ 1; grind) (fun i hi => by
      show (1 : Rat) * ee (-Δ) ≤ 1 + 1/1000000000
      have k := ee_np (x := -Δ) (α := 1) (by grind) (nb_neg hΔb) (by decide +kernel)
      have t9 : t4 ≤ 1/10000000000 := by decide +kernel
      grind) hGH.2 (fun i hi => by
      show ((2 ^ W : Nat) : Rat) / 1000000 * ee (-θ + (i : Rat) * -Δ) + 4 * ((i : Rat) + 1) * 1 ≤ (a : Rat)
      have b0 := nb_neg (thb i (by omega))
      rw [show -(θ + (i : Rat) * Δ) = -θ + (i : Rat) * -Δ by grind] at b0
      have b1 := ee_bd (nb_mono b0 (show (13817/1000 : Rat) ≤ 15 by decide +kernel))
      have i0 : (0 : Rat) ≤ (i : Rat) := Rat.natCast_nonneg
      have i1 : (i : Rat) + 1 ≤ (l.length : Rat) := by
        have : ((i + 1 : Nat) : Rat) ≤ (l.length : Rat) := Rat.natCast_le_natCast.mpr hi
        have ei : ((i + 1 : Nat) : Rat) = (i : Rat) + 1 := by simp
        rw [ei] at this; exact this
      have m1 := Rat.mul_le_mul_of_nonneg_left b1 (show 0 ≤ ((2 ^ W : Nat) : Rat) / 1000000 by grind)
      grind) h1
  -- the block
  have hB : (0 : Int) < 2 * (M : Int) + 1 := by omega
  have hdm := Int.mul_ediv_add_emod (N - lo) (2 * (M : Int) + 1)
  have hml := Int.emod_lt_of_pos (N - lo) hB
  have hm0 := Int.emod_nonneg (N - lo) (show 2 * (M : Int) + 1 ≠ 0 by omega)
  have j0 : 0 ≤ (N - lo) / (2 * (M : Int) + 1) := Int.ediv_nonneg (by omega) (by omega)
  obtain ⟨j, hj⟩ := Int.eq_ofNat_of_zero_le j0
  have hi9 : j < l.length := by
    have q : (N - lo) / (2 * (M : Int) + 1) < (l.length : Int) := Int.ediv_lt_of_lt_mul hB (by omega)
    omega
  rw [hj] at hdm
  generalize hr' : (N - lo) % (2 * (M : Int) + 1) = r at *
  have eN : N = N0 + (2 * (M : Int) + 1) * (j : Int) + (r - M) := by
    generalize (2 * (M : Int) + 1) * (j : Int) = X at *
    omega
  obtain ⟨d, hd⟩ := lRw_ok l v w hL j hi9
  obtain ⟨A0, A1, B0, B1, B2, B3, C0, C1, C2, C3, C4, x1, x2, x3, hf'⟩ := hf9 _ _ d hd
  have lz' := lz
  unfold lgZ at lz'
  obtain ⟨y1', y2', y3', y4', _⟩ := lz'
  obtain ⟨T, ⟨p1, p2, p3, p4⟩, q1, q2, q3, q4, q5⟩ := lB2_ok hz y1' y2' y3' y4' x1 x2 x3 hf'
  have nv := gV j (by omega)
  have nw := gW j (by omega)
  have jr : (j : Rat) + 1 ≤ (l.length : Rat) := by
    have : ((j + 1 : Nat) : Rat) ≤ (l.length : Rat) := Rat.natCast_le_natCast.mpr hi9
    have ei : ((j + 1 : Nat) : Rat) = (j : Rat) + 1 := by simp
    rw [ei] at this; exact this
  have jr0 : (0 : Rat) ≤ (j : Rat) := Rat.natCast_nonneg
  have E0 : 0 ≤ E := by grind
  have nv' : nb ((gw a G v j : Rat) - ((2 ^ W : Nat) : Rat) * (1000000 * ee (θ + (j : Rat) * Δ))) E := by
    have nv2 : nb ((gw a G v j : Rat) - ((2 ^ W : Nat) : Rat) * 1000000 * ee (θ + (j : Rat) * Δ)) (4 * ((j : Rat) + 1) * (if j ≤ l.length then ee ((j : Rat) * Δ) else 1)) := nv
    rw [if_pos (by omega)] at nv2
    have b2 := (ein j (by omega)).2
    have m2 := Rat.mul_le_mul_of_nonneg_left b2 (show 0 ≤ 4 * ((j : Rat) + 1) by grind)
    rw [show ((2 ^ W : Nat) : Rat) * (1000000 * ee (θ + (j : Rat) * Δ)) = ((2 ^ W : Nat) : Rat) * 1000000 * ee (θ + (j : Rat) * Δ) by grind]
    exact nb_mono nv2 (by grind)
  have nw' : nb ((gw a H w j : Rat) - ((2 ^ W : Nat) : Rat) * (ee (-(θ + (j : Rat) * Δ)) / 1000000)) E := by
    rw [show -θ + (j : Rat) * -Δ = -(θ + (j : Rat) * Δ) by grind] at nw
    rw [show ((2 ^ W : Nat) : Rat) * (ee (-(θ + (j : Rat) * Δ)) / 1000000) = ((2 ^ W : Nat) : Rat) / 1000000 * ee (-(θ + (j : Rat) * Δ)) by grind]
    have nw2 : nb ((gw a H w j : Rat) - ((2 ^ W : Nat) : Rat) / 1000000 * ee (-(θ + (j : Rat) * Δ))) (4 * ((j : Rat) + 1) * 1) := nw
    exact nb_mono nw2 (by grind)
  have th14 := nb_mono (thb j (by omega)) (show (13817/1000 : Rat) ≤ 14 by decide +kernel)
  -- the heads are large
  have low : ∀ z : Rat, nb z (13817/1000) → 1/4000000 ≤ ee z := fun z hz' => by
    have k := ee_add hz' (nb_neg hz') (by decide +kernel)
    rw [show z + -z = 0 by grind, ee_0] at k
    have b := ee_bd (nb_mono (nb_neg hz') (show (13817/1000 : Rat) ≤ 15 by decide +kernel))
    have p := Rat.le_of_lt (ee_pos (nb_mono hz' (show (13817/1000 : Rat) ≤ 100 by decide +kernel)) (by decide +kernel))
    have m := Rat.mul_le_mul_of_nonneg_left b p
    have := k.1
    grind
  have lv := low _ (thb j (by omega))
  have lw := low _ (nb_neg (thb j (by omega)))
  have big1 : 1000000 * E ≤ (gw a G v j : Rat) := by
    have m := Rat.mul_le_mul_of_nonneg_left lv (show 0 ≤ ((2 ^ W : Nat) : Rat) by grind)
    have := nv'.1
    grind
  have big2 : 1000000 * E ≤ (gw a H w j : Rat) := by
    have m := Rat.mul_le_mul_of_nonneg_left lw (show 0 ≤ ((2 ^ W : Nat) : Rat) by grind)
    have := nw'.1
    grind
  refine lg_blk lz rfl E0 p1 p2 p3 p4 q1 q2 q3 q4 q5 th14 nv' nw' big1 big2 hx (n := r - M) (by omega) ?_
  have eNr : (N : Rat) = (N0 : Rat) + ((2 * M + 1 : Nat) : Rat) * (j : Rat) + ((r - M : Int) : Rat) := by
    have e9 := congrArg (fun z : Int => (z : Rat)) eN
    simp only [Rat.intCast_add, Rat.intCast_mul] at e9
    rw [e9]
    have e8 : ((2 * M + 1 : Nat) : Rat) = ((2 : Int) : Rat) * ((M : Int) : Rat) + ((1 : Int) : Rat) := by
      have : ((2 * M + 1 : Nat) : Rat) = (((2 * (M : Int) + 1 : Int)) : Rat) := rfl
      rw [this, Rat.intCast_add, Rat.intCast_mul]
    rw [e8]
    rfl
  rw [eNr, ← hT, ← hD]
  grind
