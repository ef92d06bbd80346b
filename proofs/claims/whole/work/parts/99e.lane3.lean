theorem rp_nn {g : Rat} (h : 0 ≤ g) : ∀ n : Nat, 0 ≤ g ^ n
  | 0 => by rw [Rat.pow_zero]; grind
  | n + 1 => by rw [Rat.pow_succ]; exact Rat.mul_nonneg (rp_nn h n) h
theorem rp_ge {g : Rat} (h : 1 ≤ g) : ∀ n : Nat, 1 ≤ g ^ n
  | 0 => by rw [Rat.pow_zero]; exact Rat.le_refl
  | n + 1 => by
    rw [Rat.pow_succ]
    have := Rat.mul_le_mul_of_nonneg_right (rp_ge h n) (show 0 ≤ g by grind)
    grind
theorem rp_le {g h : Rat} (hg : 0 ≤ g) (q : g ≤ h) : ∀ n : Nat, g ^ n ≤ h ^ n
  | 0 => by rw [Rat.pow_zero, Rat.pow_zero]; exact Rat.le_refl
  | n + 1 => by
    rw [Rat.pow_succ, Rat.pow_succ]
    have a := Rat.mul_le_mul_of_nonneg_right (rp_le hg q n) hg
    have b := Rat.mul_le_mul_of_nonneg_right q (rp_nn (show 0 ≤ h by grind) n)
    grind
/-- the row's errors -/
theorem lr_err {A c L : Nat} {g : Rat} (hA : 10000000 ≤ A) (hg : 0 ≤ g) (hg1 : g ≤ 1 + 1/400000) (hL : L ≤ 10000) (h2 : ∀ j, j < L → g ^ j ≤ 2) (hc : nb ((c : Rat) - g * (A : Rat)) 1) : ∀ j, j ≤ L → nb ((lr A c j : Rat) - g ^ j * (A : Rat)) (4 * (j : Rat))
  | 0, _ => by
    have e : (lr A c 0 : Rat) = (A : Rat) := rfl
    rw [e, Rat.pow_zero]
    have e0 : ((0 : Nat) : Rat) = 0 := rfl
    rw [e0]
    constructor <;> grind
  | j + 1, hj => by
    have ih := lr_err hA hg hg1 hL h2 hc j (by omega)
    have hAr : (10000000 : Rat) ≤ (A : Rat) := by
      have : ((10000000 : Nat) : Rat) ≤ (A : Rat) := Rat.natCast_le_natCast.mpr hA
      simpa using this
    have k2 := h2 j (by omega)
    have k3 := rp_nn hg j
    have hX : 0 ≤ g ^ j * (A : Rat) := Rat.mul_nonneg k3 (by grind)
    have hH : (c : Rat) ≤ (1 + 1/200000) * (A : Rat) := by
      have := hc.2
      have m := Rat.mul_le_mul_of_nonneg_right hg1 (show 0 ≤ (A : Rat) by grind)
      grind
    have s := st_err (A := (A : Rat)) (X := g ^ j * (A : Rat)) (g := g) (H := 1 + 1/200000) (s := lr A c j) (a := A) rfl (by grind) hX ih hc hH
    have E : lr A c (j + 1) = lr A c j * c / A := rfl
    rw [E, Rat.pow_succ]
    have e1 : g ^ j * g * (A : Rat) = g ^ j * (A : Rat) * g := by grind
    rw [e1]
    refine nb_mono s ?_
    have e2 : g ^ j * (A : Rat) / (A : Rat) = g ^ j := by
      have : (A : Rat) ≠ 0 := by grind
      grind
    have e3 : ((j + 1 : Nat) : Rat) = (j : Rat) + 1 := by simp
    have hj9 : (j : Rat) ≤ 10000 := by
      have : (j : Rat) ≤ ((10000 : Nat) : Rat) := Rat.natCast_le_natCast.mpr (by omega)
      simpa using this
    rw [e2, e3]
    grind
/-- the heads -/
def hd (a c s0 : Nat) : Nat → Nat
  | 0 => s0
  | i + 1 => hd a c s0 i * c / a
theorem hd_err {a c s0 : Nat} {X0 G H : Rat} (ha : 0 < a) (hG : 0 ≤ G) (hGH : G ≤ H) (hH1 : 1 ≤ H) (hX : 0 ≤ X0) (hXa : X0 ≤ (a : Rat)) (h0 : nb ((s0 : Rat) - X0) 3) (hc : nb ((c : Rat) - G * (a : Rat)) 1) (hcH : (c : Rat) ≤ H * (a : Rat)) : ∀ i, nb ((hd a c s0 i : Rat) - X0 * G ^ i) (3 * ((i : Rat) + 1) * H ^ i)
  | 0 => by
    rw [Rat.pow_zero, Rat.pow_zero]
    have e0 : ((0 : Nat) : Rat) = 0 := rfl
    rw [e0]
    have e : (hd a c s0 0 : Rat) = (s0 : Rat) := rfl
    rw [e]
    obtain ⟨x, y⟩ := h0
    constructor <;> grind
  | i + 1 => by
    have ih := hd_err ha hG hGH hH1 hX hXa h0 hc hcH i
    have har : (0 : Rat) < (a : Rat) := by
      have : ((0 : Nat) : Rat) < (a : Rat) := Rat.natCast_lt_natCast.mpr ha
      simpa using this
    have gi := rp_nn hG i
    have hi := rp_ge hH1 i
    have gl := rp_le hG hGH i
    have s := st_err (A := (a : Rat)) (X := X0 * G ^ i) (g := G) (H := H) (s := hd a c s0 i) (a := a) rfl har (Rat.mul_nonneg hX gi) ih hc hcH
    have E : hd a c s0 (i + 1) = hd a c s0 i * c / a := rfl
    rw [E, Rat.pow_succ, Rat.pow_succ]
    have e1 : X0 * (G ^ i * G) = X0 * G ^ i * G := by grind
    rw [e1]
    refine nb_mono s ?_
    have e3 : ((i + 1 : Nat) : Rat) = (i : Rat) + 1 := by simp
    have hi9 : (0 : Rat) ≤ (i : Rat) := Rat.natCast_nonneg
    have q1 : X0 * G ^ i / (a : Rat) ≤ H ^ i := by
      refine mul_cancel_le har ?_
      have e2 : (a : Rat) * (X0 * G ^ i / (a : Rat)) = X0 * G ^ i := by
        have : (a : Rat) ≠ 0 := by grind
        grind
      rw [e2]
      have m1 := Rat.mul_le_mul_of_nonneg_right hXa gi
      have m2 := Rat.mul_le_mul_of_nonneg_right gl (Rat.le_of_lt har)
      grind
    have q2 := Rat.mul_le_mul_of_nonneg_right hH1 (show 0 ≤ H ^ i by grind)
    rw [e3]
    generalize X0 * G ^ i / (a : Rat) = Y at *
    generalize H ^ i = Z at *
    grind
/-- a head's lanes: no true value is near a whole number -/
theorem lane_ni {w F f L A B c s sm : Nat} {g X E t : Rat} (hA : 10000000 ≤ A) (hg : 0 ≤ g) (hg1 : g ≤ 1 + 1/400000) (hL : L ≤ 10000) (h2 : ∀ j, j ≤ L → g ^ j ≤ 2) (hc : nb ((c : Rat) - g * (A : Rat)) 1)
    (hX : 0 ≤ X) (hs : nb ((s : Rat) - X * (B : Rat)) E) (hF : A * B = 2 ^ F) (hf : 0 < f) (hfF : f ≤ F) (hw : F + 1 < w) (hsm : s ≤ sm) (hroom : sm * (3 * A) + 2 ^ (f - 1) < 2 ^ w)
    (herr : E * 3 * (A : Rat) + X * (B : Rat) * 40000 + t * ((A : Rat) * (B : Rat)) < ((2 ^ (f - 1) : Nat) : Rat))
    (h : lchk F f (pk w (lr A c) L) (pk w (fun _ => 1) L) s = true) : ∀ j, j < L → ∀ k : Nat, ¬ nb (X * g ^ j - (k : Rat)) t := by
  intro j hj k hk
  have hAr : (10000000 : Rat) ≤ (A : Rat) := by
    have : ((10000000 : Nat) : Rat) ≤ (A : Rat) := Rat.natCast_le_natCast.mpr hA
    simpa using this
  have hB0 : (0 : Rat) ≤ (B : Rat) := Rat.natCast_nonneg
  have r3 : ∀ j, j < L → lr A c j ≤ 3 * A := fun j hj => by
    have a := (lr_err hA hg hg1 hL (fun j hj => h2 j (by omega)) hc j (by omega)).2
    have b := Rat.mul_le_mul_of_nonneg_right (h2 j (by omega)) (show 0 ≤ (A : Rat) by grind)
    have hj9 : (j : Rat) ≤ 10000 := by
      have : (j : Rat) ≤ ((10000 : Nat) : Rat) := Rat.natCast_le_natCast.mpr (by omega)
      simpa using this
    have : ((lr A c j : Nat) : Rat) ≤ ((3 * A : Nat) : Rat) := by
      rw [Rat.natCast_mul]
      have e : ((3 : Nat) : Rat) = 3 := by simp
      rw [e]; grind
    exact Rat.natCast_le_natCast.mp this
  have no := lchk_ok (s := s) (r := lr A c) (L := L) hf hfF hw (fun j hj => Nat.lt_of_le_of_lt (Nat.add_le_add_right (Nat.mul_le_mul hsm (r3 j hj)) _) hroom) h j hj k
  have re := lr_err hA hg hg1 hL (fun j hj => h2 j (by omega)) hc j (by omega)
  have hj9 : (j : Rat) ≤ 10000 := by
    have : (j : Rat) ≤ ((10000 : Nat) : Rat) := Rat.natCast_le_natCast.mpr (by omega)
    simpa using this
  have r3j : ((lr A c j : Nat) : Rat) ≤ 3 * (A : Rat) := by
    have : ((lr A c j : Nat) : Rat) ≤ ((3 * A : Nat) : Rat) := Rat.natCast_le_natCast.mpr (r3 j hj)
    rw [Rat.natCast_mul] at this
    simpa using this
  have r0 : (0 : Rat) ≤ ((lr A c j : Nat) : Rat) := Rat.natCast_nonneg
  have m1 := nb_mul hs (show nb ((lr A c j : Nat) : Rat) (3 * (A : Rat)) from ⟨by grind, r3j⟩)
  have hXB := Rat.mul_nonneg hX hB0
  have m2 := nb_mul (show nb (X * (B : Rat)) (X * (B : Rat)) from ⟨by grind, by grind⟩) (nb_mono re (show 4 * (j : Rat) ≤ 40000 by grind))
  have hAB : 0 ≤ (A : Rat) * (B : Rat) := Rat.mul_nonneg (by grind) hB0
  have m3 := nb_mul hk (show nb ((A : Rat) * (B : Rat)) ((A : Rat) * (B : Rat)) from ⟨by grind, by grind⟩)
  have m := nb_add (nb_add m1 m2) m3
  have e : ((s : Rat) - X * (B : Rat)) * ((lr A c j : Nat) : Rat) + X * (B : Rat) * (((lr A c j : Nat) : Rat) - g ^ j * (A : Rat)) + (X * g ^ j - (k : Rat)) * ((A : Rat) * (B : Rat)) = (s : Rat) * ((lr A c j : Nat) : Rat) - (k : Rat) * ((A : Rat) * (B : Rat)) := by grind
  rw [e] at m
  have eF : (A : Rat) * (B : Rat) = ((2 ^ F : Nat) : Rat) := by rw [← hF, Rat.natCast_mul]
  rw [eF] at m herr
  obtain ⟨q1, q2⟩ := m
  apply no
  generalize 2 ^ F = PF at *
  generalize 2 ^ (f - 1) = pf at *
  constructor
  · have : ((k * PF : Nat) : Rat) ≤ ((s * lr A c j + pf : Nat) : Rat) := by
      rw [Rat.natCast_mul, Rat.natCast_add, Rat.natCast_mul]; grind
    exact Rat.natCast_le_natCast.mp this
  · have : ((s * lr A c j : Nat) : Rat) < ((k * PF + pf : Nat) : Rat) := by
      rw [Rat.natCast_add, Rat.natCast_mul, Rat.natCast_mul]; grind
    exact Rat.natCast_lt_natCast.mp this
