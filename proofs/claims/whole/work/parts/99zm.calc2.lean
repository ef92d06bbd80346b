theorem dv_cg {c : Rat} {f f' g g' : Rat → Rat} (h : dv c f g) (e1 : ∀ t, f t = f' t) (e2 : ∀ t, g t = g' t) : dv c f' g' := by
  have a : f = f' := funext e1
  have b : g = g' := funext e2
  rw [← a, ← b]
  exact h
theorem dv_cg0 {c : Rat} {f g g' : Rat → Rat} (h : dv c f g) (e2 : ∀ t, 0 ≤ t → t ≤ c → g t = g' t) : dv c f g' := by
  obtain ⟨K, k0, k⟩ := h
  refine ⟨K, k0, fun s s0 s1 => ?_⟩
  rw [← e2 s s0 s1]
  exact k s s0 s1
theorem eT_1 (z : Rat) : eT z 1 = z := by
  have e2 : eT z 1 = 1 * z / ((0 + 1 : Nat) : Rat) := rfl
  rw [e2]
  have : ((0 + 1 : Nat) : Rat) = 1 := rfl
  rw [this]; grind
/-- terms and sums of the exponential of a function -/
theorem dv_eT {c : Rat} {L G : Rat → Rat} (hc : 0 ≤ c) (h : dv c L G) : ∀ n, dv c (fun t => eT (L t) (n + 1)) (fun t => G t * eT (L t) n)
  | 0 => dv_cg h (fun t => (eT_1 (L t)).symm) (fun t => by
      have : eT (L t) 0 = 1 := rfl
      rw [this]; grind)
  | n + 1 => by
    have ih := dv_eT hc h n
    have m := dv_smul (1 / ((n + 2 : Nat) : Rat)) (dv_mul hc ih h)
    have p := rn_pos (n + 1)
    refine dv_cg m (fun t => ?_) (fun t => ?_)
    · have e := eT_s (L t) (n + 1)
      have p' : (0 : Rat) < ((n + 2 : Nat) : Rat) := p
      have e' : ((n + 2 : Nat) : Rat) * eT (L t) (n + 1 + 1) = L t * eT (L t) (n + 1) := e
      generalize ((n + 2 : Nat) : Rat) = a at *
      exact mul_inj p' (by
        rw [e']
        have : a ≠ 0 := by grind
        grind)
    · have e := eT_s (L t) n
      have p' : (0 : Rat) < ((n + 2 : Nat) : Rat) := p
      have en : ((n + 2 : Nat) : Rat) = ((n + 1 : Nat) : Rat) + 1 := by
        have : ((n + 1 + 1 : Nat) : Rat) = ((n + 1 : Nat) : Rat) + 1 := by
          rw [Rat.natCast_add (n + 1) 1]; rfl
        exact this
      generalize ((n + 2 : Nat) : Rat) = a at *
      generalize ((n + 1 : Nat) : Rat) = b at *
      have q : G t * eT (L t) n * L t + eT (L t) (n + 1) * G t = a * (G t * eT (L t) (n + 1)) := by grind
      exact mul_inj p' (by
        rw [q]
        have : a ≠ 0 := by grind
        grind)
theorem dv_eS {c : Rat} {L G : Rat → Rat} (hc : 0 ≤ c) (h : dv c L G) : ∀ n, dv c (fun t => eS (L t) (n + 1)) (fun t => G t * eS (L t) n)
  | 0 => by
    have m := dv_add (dv_const (c := c) 1 (by decide +kernel)) (dv_eT hc h 0)
    refine dv_cg m (fun t => rfl) (fun t => ?_)
    have a : eT (L t) 0 = 1 := rfl
    have b : eS (L t) 0 = 1 := rfl
    rw [a, b]; grind
  | n + 1 => by
    have m := dv_add (dv_eS hc h n) (dv_eT hc h (n + 1))
    refine dv_cg m (fun t => rfl) (fun t => ?_)
    have a : eS (L t) (n + 1) = eS (L t) n + eT (L t) (n + 1) := rfl
    rw [a]; grind
theorem dv_pw {c : Rat} (hc : 0 ≤ c) : ∀ m : Nat, dv c (fun t => t ^ (m + 1)) (fun t => ((m + 1 : Nat) : Rat) * t ^ m)
  | 0 => dv_cg (dv_id hc) (fun t => by rw [Rat.pow_succ, Rat.pow_zero]; grind) (fun t => by
      rw [Rat.pow_zero]
      have : ((0 + 1 : Nat) : Rat) = 1 := rfl
      rw [this]; grind)
  | m + 1 => by
    have k := dv_mul hc (dv_pw hc m) (dv_id hc)
    refine dv_cg k (fun t => (Rat.pow_succ t (m + 1)).symm) (fun t => ?_)
    have en : ((m + 1 + 1 : Nat) : Rat) = ((m + 1 : Nat) : Rat) + 1 := by
      rw [Rat.natCast_add (m + 1) 1]; rfl
    rw [en]
    have e : t ^ (m + 1) = t ^ m * t := Rat.pow_succ t m
    rw [e]; grind
/-- z + z^3 / 3 + .. (a = 1) or z - z^3 / 3 + .. (a = -1) -/
def oS (a t : Rat) : Nat → Rat
  | 0 => t
  | n + 1 => oS a t n + a ^ (n + 1) * (t ^ (2 * n + 3) / ((2 * n + 3 : Nat) : Rat))
def oD (a t : Rat) : Nat → Rat
  | 0 => 1
  | n + 1 => oD a t n + a ^ (n + 1) * t ^ (2 * n + 2)
theorem dv_oS {c : Rat} (hc : 0 ≤ c) (a : Rat) : ∀ n, dv c (fun t => oS a t n) (fun t => oD a t n)
  | 0 => dv_id hc
  | n + 1 => by
    have p := dv_smul (a ^ (n + 1) * (1 / ((2 * n + 3 : Nat) : Rat))) (dv_pw hc (2 * n + 2))
    have m := dv_add (dv_oS hc a n) p
    have hp := rn_pos (2 * n + 2)
    have hp' : (0 : Rat) < ((2 * n + 3 : Nat) : Rat) := hp
    have e3 : ((2 * n + 2 + 1 : Nat) : Rat) = ((2 * n + 3 : Nat) : Rat) := rfl
    refine dv_cg m (fun t => ?_) (fun t => ?_)
    · show oS a t n + a ^ (n + 1) * (1 / ((2 * n + 3 : Nat) : Rat)) * t ^ (2 * n + 2 + 1) = oS a t n + a ^ (n + 1) * (t ^ (2 * n + 3) / ((2 * n + 3 : Nat) : Rat))
      rw [show 2 * n + 2 + 1 = 2 * n + 3 by omega]
      generalize ((2 * n + 3 : Nat) : Rat) = q at *
      generalize t ^ (2 * n + 3) = T
      generalize a ^ (n + 1) = A
      have : q ≠ 0 := by grind
      grind
    · show oD a t n + a ^ (n + 1) * (1 / ((2 * n + 3 : Nat) : Rat)) * (((2 * n + 2 + 1 : Nat) : Rat) * t ^ (2 * n + 2)) = oD a t n + a ^ (n + 1) * t ^ (2 * n + 2)
      rw [e3]
      generalize ((2 * n + 3 : Nat) : Rat) = q at *
      generalize t ^ (2 * n + 2) = T
      generalize a ^ (n + 1) = A
      have : q ≠ 0 := by grind
      grind
theorem oD_sum (a t : Rat) : ∀ n, (1 - a * (t * t)) * oD a t n = 1 - a ^ (n + 1) * t ^ (2 * n + 2)
  | 0 => by
    show (1 - a * (t * t)) * 1 = 1 - a ^ (0 + 1) * t ^ (2 * 0 + 2)
    have e1 : a ^ (0 + 1) = a := by rw [Rat.pow_succ, Rat.pow_zero]; grind
    have e2 : t ^ (2 * 0 + 2) = t * t := by rw [show 2 * 0 + 2 = 0 + 1 + 1 from rfl, Rat.pow_succ, Rat.pow_succ, Rat.pow_zero]; grind
    rw [e1, e2]; grind
  | n + 1 => by
    have ih := oD_sum a t n
    have E : oD a t (n + 1) = oD a t n + a ^ (n + 1) * t ^ (2 * n + 2) := rfl
    have e1 : a ^ (n + 1 + 1) = a ^ (n + 1) * a := Rat.pow_succ a (n + 1)
    have e2 : t ^ (2 * (n + 1) + 2) = t ^ (2 * n + 2) * t * t := by rw [show 2 * (n + 1) + 2 = 2 * n + 2 + 1 + 1 by omega, Rat.pow_succ, Rat.pow_succ]
    rw [E, e1, e2]
    generalize t ^ (2 * n + 2) = T at *
    generalize a ^ (n + 1) = A at *
    generalize oD a t n = D at *
    grind
/-- 1 / (1 + t) -/
theorem dv_inv {c : Rat} : dv c (fun t => 1 / (1 + t)) (fun t => -(1 / (1 + t) * (1 / (1 + t)))) := by
  refine ⟨1, by grind, fun s s0 s1 => ?_⟩
  show nb (1 / (1 + s)) 1 ∧ nb (-(1 / (1 + s) * (1 / (1 + s)))) 1 ∧ ∀ t, 0 ≤ t → t ≤ c → nb (1 / (1 + t) - 1 / (1 + s) - -(1 / (1 + s) * (1 / (1 + s))) * (t - s)) (1 * ((t - s) * (t - s)))
  have i1 : (1 + s) * (1 / (1 + s)) = 1 := by
    have : 1 + s ≠ 0 := by grind
    grind
  have b : 0 ≤ 1 / (1 + s) ∧ 1 / (1 + s) ≤ 1 := by
    have p : 0 < 1 + s := by grind
    exact ⟨mul_cancel_le p (by grind), mul_cancel_le p (by grind)⟩
  generalize 1 / (1 + s) = u at *
  have uu := Rat.mul_nonneg b.1 b.1
  have uu1 := Rat.mul_le_mul_of_nonneg_right b.2 b.1
  refine ⟨⟨by grind, by grind⟩, ⟨by grind, by grind⟩, fun t t0 t1 => ?_⟩
  have i2 : (1 + t) * (1 / (1 + t)) = 1 := by
    have : 1 + t ≠ 0 := by grind
    grind
  have b2 : 0 ≤ 1 / (1 + t) ∧ 1 / (1 + t) ≤ 1 := by
    have p : 0 < 1 + t := by grind
    exact ⟨mul_cancel_le p (by grind), mul_cancel_le p (by grind)⟩
  generalize 1 / (1 + t) = v at *
  have e : v - u - -(u * u) * (t - s) = u * u * v * ((t - s) * (t - s)) := by
    have e1 : t - s = (1 + t) - (1 + s) := by grind
    have e2 : u * (1 + s) = 1 := by grind
    have e3 : v * (1 + t) = 1 := by grind
    generalize 1 + t = T at *
    generalize 1 + s = S at *
    rw [e1]
    grind
  rw [e]
  have k0 := Rat.mul_nonneg uu b2.1
  have k1 : u * u * v ≤ 1 := by
    have m := Rat.mul_le_mul_of_nonneg_right (show u * u ≤ 1 by grind) b2.1
    grind
  have sq := sq_nn (t - s)
  generalize (t - s) * (t - s) = h at *
  have x0 := Rat.mul_nonneg k0 sq
  have x1 := Rat.mul_le_mul_of_nonneg_right k1 sq
  constructor <;> grind
