/-! the constants of the waves' rows -/
def wn_d : Rat := 1/1000000
def wn_D : Rat := 4096/1000000
def wn_g : Nat := 1237940039284761304879481585
def wn_h : Nat := 1237940039285173951559
def wn_G : Int := 1298063325613189403976795261155436
def wn_H : Int := 5316897115988669280189865308944
def wn_c : Int := 1152921504606270515247696625
def wn_s : Int := 1152921504606654822416
def wn_W : Rat := 1000000000 * ((2 ^ 60 : Nat) : Rat)
theorem wn_g1 : nb ((wn_g : Rat) - cc wn_d * ((2 ^ 90 : Nat) : Rat)) 1 ∧ nb ((wn_h : Rat) - ss wn_d * ((2 ^ 90 : Nat) : Rat)) 1 := by
  obtain ⟨k1, k2⟩ := cs_cut (d := wn_d) (n := 20) (by decide +kernel) (by decide) (by decide +kernel)
  have h1 : nb ((wn_g : Rat) - cR wn_d 20 * ((2 ^ 90 : Nat) : Rat)) (3/4) := by unfold nb; decide +kernel
  have h2 : nb ((wn_h : Rat) - cI wn_d 20 * ((2 ^ 90 : Nat) : Rat)) (3/4) := by unfold nb; decide +kernel
  have h3 : eT wn_d 20 * ((2 ^ 90 : Nat) : Rat) ≤ 1/4 := by decide +kernel
  have p : (0 : Rat) ≤ ((2 ^ 90 : Nat) : Rat) := Rat.natCast_nonneg
  generalize ((2 ^ 90 : Nat) : Rat) = P at *
  generalize cc wn_d = X1 at *
  generalize ss wn_d = X2 at *
  generalize cR wn_d 20 = X3 at *
  generalize cI wn_d 20 = X4 at *
  generalize eT wn_d 20 = X5 at *
  generalize (wn_g : Rat) = X6 at *
  generalize (wn_h : Rat) = X7 at *
  have m1 := nb_mul k1 (show nb P P from ⟨by grind, by grind⟩)
  have m2 := nb_mul k2 (show nb P P from ⟨by grind, by grind⟩)
  obtain ⟨a1, a2⟩ := m1
  obtain ⟨b1, b2⟩ := m2
  obtain ⟨c1, c2⟩ := h1
  obtain ⟨d1, d2⟩ := h2
  refine ⟨⟨?_, ?_⟩, ⟨?_, ?_⟩⟩ <;> grind
theorem wn_G1 : nb ((wn_G : Rat) - cc wn_D * (((2 ^ 110 : Int)) : Rat)) 1 ∧ nb ((wn_H : Rat) - ss wn_D * ((2 ^ 110 : Int) : Rat)) 1 := by
  obtain ⟨k1, k2⟩ := cs_cut (d := wn_D) (n := 30) (by decide +kernel) (by decide) (by decide +kernel)
  have h1 : nb ((wn_G : Rat) - cR wn_D 30 * ((2 ^ 110 : Int) : Rat)) (3/4) := by unfold nb; decide +kernel
  have h2 : nb ((wn_H : Rat) - cI wn_D 30 * ((2 ^ 110 : Int) : Rat)) (3/4) := by unfold nb; decide +kernel
  have h3 : eT wn_D 30 * ((2 ^ 110 : Int) : Rat) ≤ 1/4 := by decide +kernel
  have p : (0 : Rat) ≤ ((2 ^ 110 : Int) : Rat) := by decide +kernel
  generalize ((2 ^ 110 : Int) : Rat) = P at *
  generalize cc wn_D = X1 at *
  generalize ss wn_D = X2 at *
  generalize cR wn_D 30 = X3 at *
  generalize cI wn_D 30 = X4 at *
  generalize eT wn_D 30 = X5 at *
  generalize (wn_G : Rat) = X6 at *
  generalize (wn_H : Rat) = X7 at *
  have m1 := nb_mul k1 (show nb P P from ⟨by grind, by grind⟩)
  have m2 := nb_mul k2 (show nb P P from ⟨by grind, by grind⟩)
  obtain ⟨a1, a2⟩ := m1
  obtain ⟨b1, b2⟩ := m2
  obtain ⟨c1, c2⟩ := h1
  obtain ⟨d1, d2⟩ := h2
  refine ⟨⟨?_, ?_⟩, ⟨?_, ?_⟩⟩ <;> grind
theorem wn_c1 : nb ((wn_c : Rat) - wn_W * cc wn_d) 3 ∧ nb ((wn_s : Rat) - wn_W * ss wn_d) 3 := by
  obtain ⟨k1, k2⟩ := cs_cut (d := wn_d) (n := 20) (by decide +kernel) (by decide) (by decide +kernel)
  have h1 : nb ((wn_c : Rat) - wn_W * cR wn_d 20) 2 := by unfold nb; decide +kernel
  have h2 : nb ((wn_s : Rat) - wn_W * cI wn_d 20) 2 := by unfold nb; decide +kernel
  have h3 : wn_W * eT wn_d 20 ≤ 1 := by decide +kernel
  have p : (0 : Rat) ≤ wn_W := by decide +kernel
  generalize wn_W = P at *
  generalize cc wn_d = X1 at *
  generalize ss wn_d = X2 at *
  generalize cR wn_d 20 = X3 at *
  generalize cI wn_d 20 = X4 at *
  generalize eT wn_d 20 = X5 at *
  generalize (wn_c : Rat) = X6 at *
  generalize (wn_s : Rat) = X7 at *
  have m1 := nb_mul (show nb P P from ⟨by grind, by grind⟩) k1
  have m2 := nb_mul (show nb P P from ⟨by grind, by grind⟩) k2
  obtain ⟨a1, a2⟩ := m1
  obtain ⟨b1, b2⟩ := m2
  obtain ⟨c1, c2⟩ := h1
  obtain ⟨d1, d2⟩ := h2
  refine ⟨⟨?_, ?_⟩, ⟨?_, ?_⟩⟩ <;> grind
def wn_rows : Nat × Nat := wrow 192 (2 ^ 90) wn_g wn_h 4096 (2 ^ 90) 0 0 0 0
def wn_one : Nat := (2 ^ (192 * 4096) - 1) / (2 ^ 192 - 1)
def wn_K : Nat := wK 150 (2 ^ 92) (2 ^ 35) wn_rows.1 wn_rows.2 wn_one
def wall (F f o R1 R2 K one : Nat) (a G H : Int) : Nat → Int → Int → Bool
  | 0, _, _ => true
  | n + 1, c, s => (wchk F f o R1 R2 K one s c && wchk F f o R1 R2 K one c (-s)) && wall F f o R1 R2 K one a G H n ((c * G - s * H) / a) ((s * G + c * H) / a)
theorem hw_add {a G H c0 s0 : Int} (i : Nat) : ∀ n, hw a G H (hw a G H c0 s0 i).1 (hw a G H c0 s0 i).2 n = hw a G H c0 s0 (i + n)
  | 0 => rfl
  | n + 1 => by
    have ih := hw_add (a := a) (G := G) (H := H) (c0 := c0) (s0 := s0) i n
    show (((hw a G H _ _ n).1 * G - (hw a G H _ _ n).2 * H) / a, ((hw a G H _ _ n).2 * G + (hw a G H _ _ n).1 * H) / a) = (((hw a G H c0 s0 (i + n)).1 * G - (hw a G H c0 s0 (i + n)).2 * H) / a, ((hw a G H c0 s0 (i + n)).2 * G + (hw a G H c0 s0 (i + n)).1 * H) / a)
    rw [ih]
theorem hw_suc {a G H : Int} : ∀ n c s, hw a G H ((c * G - s * H) / a) ((s * G + c * H) / a) n = hw a G H c s (n + 1)
  | 0, _, _ => rfl
  | n + 1, c, s => by
    have ih := hw_suc (a := a) (G := G) (H := H) n c s
    show (((hw a G H _ _ n).1 * G - (hw a G H _ _ n).2 * H) / a, ((hw a G H _ _ n).2 * G + (hw a G H _ _ n).1 * H) / a) = (((hw a G H c s (n + 1)).1 * G - (hw a G H c s (n + 1)).2 * H) / a, ((hw a G H c s (n + 1)).2 * G + (hw a G H c s (n + 1)).1 * H) / a)
    rw [ih]
theorem wall_ok {F f o R1 R2 K one : Nat} {a G H : Int} : ∀ n c s, wall F f o R1 R2 K one a G H n c s = true → ∀ i, i < n → wchk F f o R1 R2 K one (hw a G H c s i).2 (hw a G H c s i).1 = true ∧ wchk F f o R1 R2 K one (hw a G H c s i).1 (-(hw a G H c s i).2) = true
  | 0, _, _, _, i, hi => absurd hi (by omega)
  | n + 1, c, s, h, i, hi => by
    have h' : ((wchk F f o R1 R2 K one s c && wchk F f o R1 R2 K one c (-s)) && wall F f o R1 R2 K one a G H n ((c * G - s * H) / a) ((s * G + c * H) / a)) = true := h
    rw [Bool.and_eq_true, Bool.and_eq_true] at h'
    obtain ⟨⟨h1, h2⟩, h3⟩ := h'
    cases i with
    | zero => exact ⟨h1, h2⟩
    | succ i =>
      have := wall_ok n _ _ h3 i (by omega)
      rw [hw_suc] at this
      exact this
def wn_hd (i : Nat) : Int × Int := hw (2 ^ 110) wn_G wn_H wn_c wn_s i
